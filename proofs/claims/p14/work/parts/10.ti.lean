noncomputable section
/-! ===== branches: which bounds and facts hold on which side ===== -/
abbrev sCn : Type := Jvm.ClassFile.Cond
def sCnd (c : sCn) (x y : Int) : Prop := match c with
  | .eq => x = y
  | .ne => x ≠ y
  | .lt => x < y
  | .ge => y ≤ x
  | .gt => y < x
  | .le => x ≤ y
def sCb (c : sCn) (x y : Int) : Bool := match c with
  | .eq => decide (x = y)
  | .ne => decide (x ≠ y)
  | .lt => decide (x < y)
  | .ge => decide (y ≤ x)
  | .gt => decide (y < x)
  | .le => decide (x ≤ y)
theorem sCb_iff (c : sCn) (x y : Int) : sCb c x y = true ↔ sCnd c x y := by cases c <;> simp [sCb, sCnd]
def sNeg (c : sCn) : sCn := match c with
  | .eq => .ne
  | .ne => .eq
  | .lt => .ge
  | .ge => .lt
  | .gt => .le
  | .le => .gt
def sFlip (c : sCn) : sCn := match c with
  | .eq => .eq
  | .ne => .ne
  | .lt => .gt
  | .ge => .le
  | .gt => .lt
  | .le => .ge
theorem sNeg_iff (c : sCn) (x y : Int) : sCnd (sNeg c) x y ↔ ¬ sCnd c x y := by cases c <;> simp only [sNeg, sCnd] <;> omega
theorem sFlip_iff (c : sCn) (x y : Int) : sCnd (sFlip c) x y ↔ sCnd c y x := by cases c <;> simp only [sFlip, sCnd] <;> omega
/-- x within lo..hi: go on with the bounds closed in, or nothing where that can't be -/
def sCut (κ : sCx) (x : sV) (lo hi : Int) (k : sCx → Option (List sCx)) : Option (List sCx) := match sRg κ.2.1 x with
  | some (a, b) => if (gLe lo a && gLe b hi) = true then k κ else if gLe (sMx2 lo a) (sMn2 hi b) = true then (if 16 ≤ x.1 then k (κ.1, ((x.1 - 16) / 2, sMx2 lo a - x.2, sMn2 hi b - x.2) :: κ.2.1, κ.2.2) else k κ) else some []
  | none => none
theorem sCut_ok {ρ : List Int} {κ : sCx} (h : sCok ρ κ) {x : sV} {n lo hi : Int} (hn : sEv ρ x = some n) (h1 : lo ≤ n) (h2 : n ≤ hi) {k : sCx → Option (List sCx)} {r : List sCx} (he : sCut κ x lo hi k = some r) : ∃ κ1, sCok ρ κ1 ∧ k κ1 = some r := by
  unfold sCut at he
  split at he
  · rename_i a b hr
    obtain ⟨p1, p2, -⟩ := sRg_ev h.1 hn hr
    split at he
    · exact ⟨κ, h, he⟩
    · split at he
      · split at he
        · rename_i h16
          refine ⟨(κ.1, ((x.1 - 16) / 2, sMx2 lo a - x.2, sMn2 hi b - x.2) :: κ.2.1, κ.2.2), ⟨?_, h.2⟩, he⟩
          obtain ⟨t, c⟩ := x
          simp only at h16 ⊢
          rw [sEv_gen ⟨by omega, by omega⟩, if_pos h16] at hn
          obtain ⟨y, hy, rfl⟩ := Option.map_eq_some_iff.mp hn
          refine sOk_cons h.1 hy ?_ ?_
          · rw [sMx2_eq]; split <;> omega
          · rw [sMn2_eq]; split <;> omega
        · exact ⟨κ, h, he⟩
      · rename_i hc
        exfalso
        apply hc
        rw [gLe_iff]
        rw [sMx2_eq, sMn2_eq]
        split <;> split <;> omega
  · cases he
def sFs (κ : sCx) (fs : List sFc) : sCx := (κ.1, κ.2.1, fs ++ κ.2.2)
theorem sFs_ok {ρ : List Int} {κ : sCx} (h : sCok ρ κ) {fs : List sFc} (hf : ∀ f ∈ fs, sPf ρ f) : sCok ρ (sFs κ fs) := ⟨h.1, fun f hq => by
  rcases List.mem_append.mp hq with hq | hq
  · exact hf f hq
  · exact h.2 f hq⟩
/-- a is less than b (e = 1), or not more (e = 0) -/
def sLs (κ : sCx) (a b : sV) (e : Int) : Option (List sCx) := match sRg κ.2.1 a, sRg κ.2.1 b with
  | some (a0, _), some (_, b1) => if sNn ((sDm κ.2.1 κ.2.2 2 a b).map fun c => c - (1 - e)) = true then some [] else sCut κ a (-2147483648) (b1 - e) fun κ1 => sCut κ1 b (a0 + e) 2147483647 fun κ2 => some [if 16 ≤ a.1 ∧ 16 ≤ b.1 then sFs κ2 [(0, [b, (a.1, a.2 + e)], [])] else κ2]
  | _, _ => none
def sEq (κ : sCx) (a b : sV) : Option (List sCx) := match sRg κ.2.1 a, sRg κ.2.1 b with
  | some (a0, a1), some (b0, b1) => if (sNn ((sDm κ.2.1 κ.2.2 2 a b).map fun c => c - 1) || sNn ((sDm κ.2.1 κ.2.2 2 b a).map fun c => c - 1)) = true then some [] else sCut κ a b0 b1 fun κ1 => sCut κ1 b a0 a1 fun κ2 => some [if 16 ≤ a.1 ∧ 16 ≤ b.1 then sFs κ2 [(0, [a, b], []), (0, [b, a], [])] else κ2]
  | _, _ => none
def sNe (κ : sCx) (a : sV) (z : Int) : Option (List sCx) := match sLs κ a (0, z) 1, sLs κ (0, z) a 1 with
  | some l1, some l2 => some (l1 ++ l2)
  | _, _ => none
def sRf (c : sCn) (κ : sCx) (a b : sV) : Option (List sCx) := if a.1 = b.1 then (if sI a.2 = true ∧ sI b.2 = true ∨ 16 ≤ a.1 then some (if sCb c a.2 b.2 = true then [κ] else []) else none) else match c with
  | .eq => sEq κ a b
  | .ne => if b.1 = 0 then sNe κ a b.2 else if a.1 = 0 then sNe κ b a.2 else if (sNn (sDm κ.2.1 κ.2.2 1 a b) && sNn (sDm κ.2.1 κ.2.2 1 b a)) = true then some [] else some [sFs κ [(6, [a, b], [])]]
  | .lt => sLs κ a b 1
  | .ge => sLs κ b a 0
  | .gt => sLs κ b a 1
  | .le => sLs κ a b 0
theorem sLs_ok {ρ : List Int} {κ : sCx} (h : sCok ρ κ) {a b : sV} {m n e : Int} (hm : sEv ρ a = some m) (hn : sEv ρ b = some n) (hc : m + e ≤ n) {r : List sCx} (he : sLs κ a b e = some r) (h01 : e = 0 ∨ e = 1) : ∃ κ' ∈ r, sCok ρ κ' := by
  unfold sLs at he
  split at he
  · rename_i a0 a1 b0 b1 ha hb
    obtain ⟨p1, p2, p3⟩ := sRg_ev h.1 hm ha
    obtain ⟨q1, q2, q3⟩ := sRg_ev h.1 hn hb
    rw [sI_iff] at p3 q3
    split at he
    · rename_i hx
      exfalso
      obtain ⟨z, hz, hz0⟩ := sNn_some hx
      obtain ⟨w, hw, rfl⟩ := Option.map_eq_some_iff.mp hz
      have := sDm_ok h.1 h.2 2 hm hn hw
      omega
    · obtain ⟨κ1, g1, he1⟩ := sCut_ok h hm p3.1 (by omega) he
      obtain ⟨κ2, g2, he2⟩ := sCut_ok g1 hn (by omega) q3.2 he1
      cases he2
      refine ⟨_, List.mem_cons_self, ?_⟩
      split
      · rename_i h16
        refine sFs_ok g2 (fun f hf => ?_)
        rw [List.mem_singleton] at hf
        subst hf
        obtain ⟨t, z⟩ := a
        simp only at h16 ⊢
        refine ⟨n, m + e, hn, ?_, hc⟩
        rw [sEv_gen ⟨by omega, by omega⟩, if_pos h16.1] at hm ⊢
        obtain ⟨y, hy, rfl⟩ := Option.map_eq_some_iff.mp hm
        rw [hy]
        show some (y + (z + e)) = some (y + z + e)
        congr 1
        omega
      · exact g2
  · cases he
theorem sEq_ok {ρ : List Int} {κ : sCx} (h : sCok ρ κ) {a b : sV} {m n : Int} (hm : sEv ρ a = some m) (hn : sEv ρ b = some n) (hc : m = n) {r : List sCx} (he : sEq κ a b = some r) : ∃ κ' ∈ r, sCok ρ κ' := by
  unfold sEq at he
  split at he
  · rename_i a0 a1 b0 b1 ha hb
    obtain ⟨p1, p2, p3⟩ := sRg_ev h.1 hm ha
    obtain ⟨q1, q2, q3⟩ := sRg_ev h.1 hn hb
    split at he
    · rename_i hx
      exfalso
      rw [Bool.or_eq_true] at hx
      rcases hx with hx | hx
      · obtain ⟨z, hz, hz0⟩ := sNn_some hx
        obtain ⟨w, hw, rfl⟩ := Option.map_eq_some_iff.mp hz
        have := sDm_ok h.1 h.2 2 hm hn hw
        omega
      · obtain ⟨z, hz, hz0⟩ := sNn_some hx
        obtain ⟨w, hw, rfl⟩ := Option.map_eq_some_iff.mp hz
        have := sDm_ok h.1 h.2 2 hn hm hw
        omega
    · obtain ⟨κ1, g1, he1⟩ := sCut_ok h hm (by omega) (by omega) he
      obtain ⟨κ2, g2, he2⟩ := sCut_ok g1 hn (by omega) (by omega) he1
      cases he2
      refine ⟨_, List.mem_cons_self, ?_⟩
      split
      · refine sFs_ok g2 (fun f hf => ?_)
        simp only [List.mem_cons, List.not_mem_nil, or_false] at hf
        rcases hf with rfl | rfl
        · exact ⟨m, n, hm, hn, by omega⟩
        · exact ⟨n, m, hn, hm, by omega⟩
      · exact g2
  · cases he
theorem sNe_ok {ρ : List Int} {κ : sCx} (h : sCok ρ κ) {a : sV} {m z : Int} (hm : sEv ρ a = some m) (_hI : sI m = true) (hc : m ≠ z) {r : List sCx} (he : sNe κ a z = some r) : ∃ κ' ∈ r, sCok ρ κ' := by
  unfold sNe at he
  split at he
  · rename_i l1 l2 e1 e2
    cases he
    have hz : sEv ρ (0, z) = some z := rfl
    rcases (by omega : m + 1 ≤ z ∨ z + 1 ≤ m) with q | q
    · obtain ⟨κ1, g1, g2⟩ := sLs_ok h hm hz q e1 (Or.inr rfl)
      exact ⟨κ1, List.mem_append_left _ g1, g2⟩
    · obtain ⟨κ1, g1, g2⟩ := sLs_ok h hz hm q e2 (Or.inr rfl)
      exact ⟨κ1, List.mem_append_right _ g1, g2⟩
  · cases he
theorem sRf_ok {ρ : List Int} {κ : sCx} (h : sCok ρ κ) {c : sCn} {a b : sV} {m n : Int} (hm : sEv ρ a = some m) (hn : sEv ρ b = some n) (im : sI m = true) (in_ : sI n = true) (hc : sCnd c m n) {r : List sCx} (he : sRf c κ a b = some r) : ∃ κ' ∈ r, sCok ρ κ' := by
  unfold sRf at he
  split at he
  · rename_i e
    have hd := sEv_same e hm hn
    split at he
    · have hb : sCb c a.2 b.2 = true := by
        rw [sCb_iff]
        cases c <;> simp only [sCnd] at hc ⊢ <;> omega
      rw [if_pos hb] at he
      cases he
      exact ⟨κ, List.mem_cons_self, h⟩
    · cases he
  · cases c
    case eq => exact sEq_ok h hm hn hc he
    case ne =>
      simp only at he
      split at he
      · rename_i h0
        exact sNe_ok h hm im (by rw [← sEv0 h0 hn]; exact hc) he
      · split at he
        · rename_i h0
          exact sNe_ok h hn in_ (by rw [← sEv0 h0 hm]; exact fun q => hc q.symm) he
        · split at he
          · rename_i hx
            exfalso
            rw [Bool.and_eq_true] at hx
            obtain ⟨z1, e1, g1⟩ := sNn_some hx.1
            obtain ⟨z2, e2, g2⟩ := sNn_some hx.2
            have q1 := sDm_ok h.1 h.2 1 hm hn e1
            have q2 := sDm_ok h.1 h.2 1 hn hm e2
            simp only [sCnd] at hc
            omega
          · cases he
            refine ⟨_, List.mem_cons_self, sFs_ok h (fun f hf => ?_)⟩
            rw [List.mem_singleton] at hf
            subst hf
            exact ⟨m, n, hm, hn, hc⟩
    case lt => exact sLs_ok h hm hn (show m + 1 ≤ n by simp only [sCnd] at hc; omega) he (Or.inr rfl)
    case ge => exact sLs_ok h hn hm (show n + 0 ≤ m by simp only [sCnd] at hc; omega) he (Or.inl rfl)
    case gt => exact sLs_ok h hn hm (show n + 1 ≤ m by simp only [sCnd] at hc; omega) he (Or.inr rfl)
    case le => exact sLs_ok h hm hn (show m + 0 ≤ n by simp only [sCnd] at hc; omega) he (Or.inl rfl)
theorem sI64 {z : Int} (h : sI z = true) : (Int64.ofInt z).toInt = z := by
  simp only [sI, Bool.and_eq_true, decide_eq_true_eq] at h
  exact Int64.toInt_ofInt_of_le (by omega) (by omega)
theorem sCmp (x y : Int64) (u v : Int) (hx : x.toInt = u) (hy : y.toInt = v) : lg_cmp x y = Int32.ofInt (if v < u then 1 else if u = v then 0 else -1) := by
  subst hx; subst hy
  unfold lg_cmp
  simp only [gt_iff_lt, Int64.lt_iff_toInt_lt, ← Int64.toInt_inj]
  split
  · rfl
  · split <;> rfl
abbrev sNx : Type := sCx × Nat × List sV
def sTg (pc : Nat) (off : Int) : Option Nat := if 0 ≤ (pc : Int) + off then some ((pc : Int) + off).toNat else none
theorem sTg_ok {pc t : Nat} {off : Int} (h : sTg pc off = some t) : (pc : Int) + off = (t : Int) := by
  unfold sTg at h
  split at h
  · cases h
    omega
  · cases h
end
