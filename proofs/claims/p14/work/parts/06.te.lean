noncomputable section
/-! ===== the machine's operations on ints, by bounds ===== -/
abbrev sCx : Type := Nat × sE × List sFc
def sCok (ρ : List Int) (κ : sCx) : Prop := sOk ρ κ.1 κ.2.1 ∧ ∀ f ∈ κ.2.2, sPf ρ f
def sRes (ρ : List Int) (κ : sCx) (r : sV) (w : Int32) : Prop := ∃ ρ' : List Int, ρ <+: ρ' ∧ sCok ρ' κ ∧ sK r = 0 ∧ ∃ z : Int, sEv ρ' r = some z ∧ Int32.ofInt z = w
def sFx (κ : sCx) (lo hi : Int) : sCx × sV := match sFw κ.1 κ.2.1 lo hi with
  | (nx, env, x) => ((nx, env, κ.2.2), x)
theorem sFx_ok {ρ : List Int} {κ : sCx} (h : sCok ρ κ) (w : Int32) {lo hi : Int} (hb : -2147483648 ≤ lo → hi ≤ 2147483647 → lo ≤ w.toInt ∧ w.toInt ≤ hi) : ∃ ρ' : List Int, ρ <+: ρ' ∧ sCok ρ' (sFx κ lo hi).1 ∧ sK (sFx κ lo hi).2 = 0 ∧ sEv ρ' (sFx κ lo hi).2 = some w.toInt := by
  obtain ⟨ρ', h1, h2, h3, h4⟩ := sFw_ok h.1 (sI_of w) hb
  exact ⟨ρ', h1, ⟨h2, fun f hf => sPf_mono h1 (h.2 f hf)⟩, h4, h3⟩
theorem sFx_res {ρ : List Int} {κ : sCx} (h : sCok ρ κ) (w : Int32) {lo hi : Int} (hb : -2147483648 ≤ lo → hi ≤ 2147483647 → lo ≤ w.toInt ∧ w.toInt ≤ hi) : sRes ρ (sFx κ lo hi).1 (sFx κ lo hi).2 w := by
  obtain ⟨ρ', h1, h2, h3, h4⟩ := sFx_ok h w hb
  exact ⟨ρ', h1, h2, h3, _, h4, Int32.ofInt_toInt _⟩
def sAny (κ : sCx) : sCx × sV := sFx κ (-2147483648) 2147483647
theorem sAny_res {ρ : List Int} {κ : sCx} (h : sCok ρ κ) (w : Int32) : sRes ρ (sAny κ).1 (sAny κ).2 w := by
  have hw := sI_of w
  rw [sI_iff] at hw
  exact sFx_res h w (fun _ _ => hw)
theorem sRes_here {ρ : List Int} {κ : sCx} (h : sCok ρ κ) {r : sV} (hk : sK r = 0) {z : Int} (hz : sEv ρ r = some z) : sRes ρ κ r (Int32.ofInt z) := ⟨ρ, List.prefix_rfl, h, hk, z, hz, rfl⟩
def sW (z : Int) : Int := if sI z = true then z else (Int32.ofInt z).toInt
theorem sW_ok (z : Int) : Int32.ofInt (sW z) = Int32.ofInt z := by
  unfold sW
  split
  · rfl
  · rw [Int32.ofInt_toInt]
/-- an operation is right -/
def sOpr (op : sCx → sV → sV → Option (sCx × sV)) (G : Int32 → Int32 → Int32) : Prop := ∀ {ρ : List Int} {κ κ' : sCx} {a b r : sV} {m n : Int}, sCok ρ κ → sK a = 0 → sK b = 0 → sEv ρ a = some m → sEv ρ b = some n → op κ a b = some (κ', r) → sRes ρ κ' r (G (Int32.ofInt m) (Int32.ofInt n))
theorem sEv0 {ρ : List Int} {a : sV} {m : Int} (h0 : a.1 = 0) (h : sEv ρ a = some m) : m = a.2 := by
  obtain ⟨t, c⟩ := a
  simp only at h0
  subst h0
  simpa [sEv] using h.symm
theorem sOff {ρ : List Int} {a : sV} {m : Int} (hk : sK a = 0) (h16 : 16 ≤ a.1) (h : sEv ρ a = some m) (c : Int) : sEv ρ (a.1, a.2 + c) = some (m + c) ∧ sK (a.1, a.2 + c) = 0 := by
  obtain ⟨t, z⟩ := a
  simp only at h16 ⊢
  refine ⟨?_, ?_⟩
  · rw [sEv_gen ⟨by omega, by omega⟩, if_pos h16] at h ⊢
    obtain ⟨y, hy, rfl⟩ := Option.map_eq_some_iff.mp h
    rw [hy]
    show some (y + (z + c)) = some (y + z + c)
    congr 1
    omega
  · rw [sK_gen ⟨by omega, by omega, by omega, by omega, by omega⟩, if_pos h16] at hk ⊢
    exact hk
/-- a number more: an unknown moved by c where that stays an int -/
def sMv (κ : sCx) (a : sV) (c : Int) : Option (sCx × sV) := if 16 ≤ a.1 then (match sRg κ.2.1 a with
  | some (lo, hi) => if -2147483648 ≤ lo + c ∧ hi + c ≤ 2147483647 then some (κ, (a.1, a.2 + c)) else some (sAny κ)
  | none => none) else none
theorem sMv_ok {ρ : List Int} {κ κ' : sCx} {a r : sV} {m c : Int} (h : sCok ρ κ) (hk : sK a = 0) (hm : sEv ρ a = some m) (he : sMv κ a c = some (κ', r)) : sRes ρ κ' r (Int32.ofInt (m + c)) := by
  unfold sMv at he
  split at he
  · rename_i h16
    split at he
    · split at he
      · cases he
        obtain ⟨h1, h2⟩ := sOff hk h16 hm c
        exact sRes_here h h2 h1
      · cases he
        exact sAny_res h _
    · cases he
  · cases he
/-- facts join the others where the new number is an unknown one -/
def sPlus (q : sCx × sV) (fs : List sFc) : sCx × sV := if 16 ≤ q.2.1 then ((q.1.1, q.1.2.1, fs ++ q.1.2.2), q.2) else q
theorem sPlus_res {ρ ρ' : List Int} {q : sCx × sV} {fs : List sFc} {w : Int32} {z : Int} (hp : ρ <+: ρ') (h : sCok ρ' q.1) (hk : sK q.2 = 0) (hz : sEv ρ' q.2 = some z) (hw : Int32.ofInt z = w) (hf : ∀ f ∈ fs, sPf ρ' f) : sRes ρ (sPlus q fs).1 (sPlus q fs).2 w := by
  unfold sPlus
  split
  · exact ⟨ρ', hp, ⟨h.1, fun f hq => by
      rcases List.mem_append.mp hq with hq | hq
      · exact hf f hq
      · exact h.2 f hq⟩, hk, z, hz, hw⟩
  · exact ⟨ρ', hp, h, hk, z, hz, hw⟩
theorem sPair {α β : Type} {p : α × β} {a : α} {b : β} (h : some p = some (a, b)) : p.1 = a ∧ p.2 = b := by
  cases Option.some.inj h
  exact ⟨rfl, rfl⟩
def sAdd (κ : sCx) (a b : sV) : Option (sCx × sV) := if a.1 = 0 then (if b.1 = 0 then some (κ, (0, sW (a.2 + b.2))) else sMv κ b a.2) else if b.1 = 0 then sMv κ a b.2 else (match sRg κ.2.1 a, sRg κ.2.1 b with
  | some (a0, a1), some (b0, b1) => (match sFx κ (a0 + b0) (a1 + b1) with
    | q => some (if -2147483648 ≤ a0 + b0 ∧ a1 + b1 ≤ 2147483647 then sPlus q [(5, [q.2, a, b], [0])] else q))
  | _, _ => none)
theorem sI32 {m : Int} (h : sI m = true) : (Int32.ofInt m).toInt = m := sI_toInt h
theorem sInR {z lo hi : Int} (h1 : lo ≤ z) (h2 : z ≤ hi) (q1 : -2147483648 ≤ lo) (q2 : hi ≤ 2147483647) : lo ≤ (Int32.ofInt z).toInt ∧ (Int32.ofInt z).toInt ≤ hi := by
  rw [sI_toInt (sI_iff.mpr (by omega))]
  exact ⟨h1, h2⟩
theorem sAdd_ok : sOpr sAdd (fun x y => x + y) := by
  intro ρ κ κ' a b r m n h ka kb hm hn he
  unfold sAdd at he
  simp only [← Int32.ofInt_add]
  split at he
  · rename_i h0
    have e1 := sEv0 h0 hm
    split at he
    · rename_i h1
      have e2 := sEv0 h1 hn
      cases he
      subst e1; subst e2
      rw [← sW_ok]
      exact sRes_here h rfl rfl
    · subst e1
      rw [Int.add_comm]
      exact sMv_ok h kb hn he
  · split at he
    · rename_i h1
      have e2 := sEv0 h1 hn
      subst e2
      exact sMv_ok h ka hm he
    · split at he
      · rename_i a0 a1 b0 b1 ha hb
        obtain ⟨p1, p2, -⟩ := sRg_ev h.1 hm ha
        obtain ⟨q1, q2, -⟩ := sRg_ev h.1 hn hb
        simp only at he
        split at he
        · rename_i hc
          obtain ⟨ρ', r1, r2, r3, r4⟩ := sFx_ok h (Int32.ofInt (m + n)) (lo := a0 + b0) (hi := a1 + b1) (fun w1 w2 => sInR (by omega) (by omega) w1 w2)
          have hI : (Int32.ofInt (m + n)).toInt = m + n := sI_toInt (sI_iff.mpr (by omega))
          rw [hI] at r4
          obtain ⟨rfl, rfl⟩ := sPair he
          refine sPlus_res r1 r2 r3 r4 rfl (fun f hf => ?_)
          rw [List.mem_singleton] at hf
          subst hf
          exact ⟨m + n, m, n, r4, sEv_mono r1 hm, sEv_mono r1 hn, rfl⟩
        · obtain ⟨rfl, rfl⟩ := sPair he
          exact sFx_res h _ (fun w1 w2 => sInR (by omega) (by omega) w1 w2)
      · cases he
def sMaxI (a : Int) (b : Option Int) : Int := match b with
  | some z => if a ≤ z then z else a
  | none => a
def sSub (κ : sCx) (a b : sV) : Option (sCx × sV) := if b.1 = 0 then (if a.1 = 0 then some (κ, (0, sW (a.2 - b.2))) else sMv κ a (- b.2)) else if a.1 = b.1 then some (κ, (0, sW (a.2 - b.2))) else (match sRg κ.2.1 a, sRg κ.2.1 b with
  | some (a0, a1), some (b0, b1) => (match sMaxI (a0 - b1) (sDm κ.2.1 κ.2.2 1 a b) with
    | lo => if -2147483648 ≤ lo ∧ a1 - b0 ≤ 2147483647 then (match sFx κ lo (a1 - b0) with
      | q => some (sPlus q (if 16 ≤ a.1 then [(2, [a, b, q.2], []), (5, [q.2, a, b], [3])] else []))) else some (sAny κ))
  | _, _ => none)
theorem sSub_ok : sOpr sSub (fun x y => x - y) := by
  intro ρ κ κ' a b r m n h ka kb hm hn he
  unfold sSub at he
  simp only [← Int32.ofInt_sub]
  split at he
  · rename_i h1
    have e2 := sEv0 h1 hn
    split at he
    · rename_i h0
      have e1 := sEv0 h0 hm
      cases he
      subst e1; subst e2
      rw [← sW_ok]
      exact sRes_here h rfl rfl
    · subst e2
      exact sMv_ok h ka hm he
  · split at he
    · rename_i e
      cases he
      rw [← sEv_same e hm hn, ← sW_ok]
      exact sRes_here h rfl rfl
    · split at he
      · rename_i a0 a1 b0 b1 ha hb
        obtain ⟨p1, p2, p3⟩ := sRg_ev h.1 hm ha
        obtain ⟨q1, q2, q3⟩ := sRg_ev h.1 hn hb
        simp only at he
        have hlo : sMaxI (a0 - b1) (sDm κ.2.1 κ.2.2 1 a b) ≤ m - n := by
          unfold sMaxI
          split
          · rename_i z hz
            have := sDm_ok h.1 h.2 1 hm hn hz
            split <;> omega
          · omega
        split at he
        · rename_i hc
          obtain ⟨rfl, rfl⟩ := sPair he
          obtain ⟨ρ', r1, r2, r3, r4⟩ := sFx_ok h (Int32.ofInt (m - n)) (lo := sMaxI (a0 - b1) (sDm κ.2.1 κ.2.2 1 a b)) (hi := a1 - b0) (fun w1 w2 => sInR hlo (by omega) w1 w2)
          have hI : (Int32.ofInt (m - n)).toInt = m - n := sI_toInt (sI_iff.mpr (by omega))
          rw [hI] at r4
          refine sPlus_res r1 r2 r3 r4 rfl (fun f hf => ?_)
          split at hf
          · simp only [List.mem_cons, List.not_mem_nil, or_false] at hf
            rcases hf with rfl | rfl
            · exact ⟨m, n, m - n, sEv_mono r1 hm, sEv_mono r1 hn, r4, by omega⟩
            · exact ⟨m - n, m, n, r4, sEv_mono r1 hm, sEv_mono r1 hn, rfl⟩
          · cases hf
        · cases he
          exact sAny_res h _
      · cases he
def sMn2 (a b : Int) : Int := Bool.rec (motive := fun _ => Int) b a (gLe a b)
def sMx2 (a b : Int) : Int := Bool.rec (motive := fun _ => Int) a b (gLe a b)
theorem gBr {α : Type} {a b : Int} (x y : α) : Bool.rec (motive := fun _ => α) x y (gLe a b) = if a ≤ b then y else x := by
  cases e : gLe a b with
  | false =>
    rw [if_neg]
    intro q
    rw [gLe_iff.mpr q] at e
    cases e
  | true => rw [if_pos (gLe_iff.mp e)]
theorem sMn2_eq (a b : Int) : sMn2 a b = if a ≤ b then a else b := gBr _ _
theorem sMx2_eq (a b : Int) : sMx2 a b = if a ≤ b then b else a := gBr _ _
def sMul (κ : sCx) (a b : sV) : Option (sCx × sV) := if a.1 = 0 ∧ b.1 = 0 then some (κ, (0, sW (a.2 * b.2))) else (match sRg κ.2.1 a, sRg κ.2.1 b with
  | some (a0, a1), some (b0, b1) => (match sMn2 (sMn2 (a0 * b0) (a0 * b1)) (sMn2 (a1 * b0) (a1 * b1)), sMx2 (sMx2 (a0 * b0) (a0 * b1)) (sMx2 (a1 * b0) (a1 * b1)) with
    | lo, hi => if -2147483648 ≤ lo ∧ hi ≤ 2147483647 then (match sFx κ lo hi with
      | q => some (sPlus q (if a.1 = 0 ∧ (a.2 = 3 ∨ a.2 = 17) then [(3, [q.2], [a.2.toNat, 0]), (5, [q.2, a, b], [1])] else if b.1 = 0 ∧ (b.2 = 3 ∨ b.2 = 17) then [(3, [q.2], [b.2.toNat, 0]), (5, [q.2, a, b], [1])] else if (a.1 = 0 ∧ a.2 = 10) ∨ (b.1 = 0 ∧ b.2 = 10) then [(5, [q.2, a, b], [1])] else []))) else some (sAny κ))
  | _, _ => none)
theorem sMulB {m n a0 a1 b0 b1 : Int} (p1 : a0 ≤ m) (p2 : m ≤ a1) (q1 : b0 ≤ n) (q2 : n ≤ b1) : sMn2 (sMn2 (a0 * b0) (a0 * b1)) (sMn2 (a1 * b0) (a1 * b1)) ≤ m * n ∧ m * n ≤ sMx2 (sMx2 (a0 * b0) (a0 * b1)) (sMx2 (a1 * b0) (a1 * b1)) := by
  have c1 : ∀ x : Int, (x * b0 ≤ x * n ∧ x * n ≤ x * b1) ∨ (x * b1 ≤ x * n ∧ x * n ≤ x * b0) := fun x => by
    rcases Int.le_total 0 x with hx | hx
    · exact Or.inl ⟨Int.mul_le_mul_of_nonneg_left q1 hx, Int.mul_le_mul_of_nonneg_left q2 hx⟩
    · exact Or.inr ⟨Int.mul_le_mul_of_nonpos_left hx q2, Int.mul_le_mul_of_nonpos_left hx q1⟩
  have c2 : (a0 * n ≤ m * n ∧ m * n ≤ a1 * n) ∨ (a1 * n ≤ m * n ∧ m * n ≤ a0 * n) := by
    rcases Int.le_total 0 n with hx | hx
    · exact Or.inl ⟨Int.mul_le_mul_of_nonneg_right p1 hx, Int.mul_le_mul_of_nonneg_right p2 hx⟩
    · exact Or.inr ⟨Int.mul_le_mul_of_nonpos_right p2 hx, Int.mul_le_mul_of_nonpos_right p1 hx⟩
  have d0 := c1 a0
  have d1 := c1 a1
  generalize m * n = mn at *
  generalize a0 * n = x1 at *
  generalize a1 * n = x2 at *
  generalize a0 * b0 = y1 at *
  generalize a0 * b1 = y2 at *
  generalize a1 * b0 = y3 at *
  generalize a1 * b1 = y4 at *
  simp only [sMn2_eq, sMx2_eq]
  constructor
  · repeat' split
    all_goals omega
  · repeat' split
    all_goals omega
theorem sMul_ok : sOpr sMul (fun x y => x * y) := by
  intro ρ κ κ' a b r m n h ka kb hm hn he
  unfold sMul at he
  simp only [← Int32.ofInt_mul]
  split at he
  · rename_i h0
    have e1 := sEv0 h0.1 hm
    have e2 := sEv0 h0.2 hn
    cases he
    subst e1; subst e2
    rw [← sW_ok]
    exact sRes_here h rfl rfl
  · split at he
    · rename_i a0 a1 b0 b1 ha hb
      obtain ⟨p1, p2, p3⟩ := sRg_ev h.1 hm ha
      obtain ⟨q1, q2, q3⟩ := sRg_ev h.1 hn hb
      obtain ⟨l1, l2⟩ := sMulB p1 p2 q1 q2
      simp only at he
      split at he
      · rename_i hc
        obtain ⟨rfl, rfl⟩ := sPair he
        obtain ⟨ρ', r1, r2, r3, r4⟩ := sFx_ok h (Int32.ofInt (m * n)) (fun w1 w2 => sInR l1 l2 w1 w2)
        have hI : (Int32.ofInt (m * n)).toInt = m * n := sI_toInt (sI_iff.mpr (by omega))
        rw [hI] at r4
        refine sPlus_res r1 r2 r3 r4 rfl (fun f hf => ?_)
        split at hf
        · rename_i hh
          rcases List.mem_cons.mp hf with rfl | hf
          · have e1 := sEv0 hh.1 hm
            refine ⟨m * n, n, r4, ?_⟩
            have : ((a.2.toNat : Nat) : Int) = a.2 := Int.toNat_of_nonneg (by omega)
            rw [this, e1]
            simp
          · rw [List.mem_singleton] at hf
            subst hf
            exact ⟨m * n, m, n, r4, sEv_mono r1 hm, sEv_mono r1 hn, rfl⟩
        · split at hf
          · rename_i hh
            rcases List.mem_cons.mp hf with rfl | hf
            · have e1 := sEv0 hh.1 hn
              refine ⟨m * n, m, r4, ?_⟩
              have : ((b.2.toNat : Nat) : Int) = b.2 := Int.toNat_of_nonneg (by omega)
              rw [this, e1, Int.mul_comm]
              simp
            · rw [List.mem_singleton] at hf
              subst hf
              exact ⟨m * n, m, n, r4, sEv_mono r1 hm, sEv_mono r1 hn, rfl⟩
          · split at hf
            · rw [List.mem_singleton] at hf
              subst hf
              exact ⟨m * n, m, n, r4, sEv_mono r1 hm, sEv_mono r1 hn, rfl⟩
            · cases hf
      · cases he
        exact sAny_res h _
    · cases he
end
