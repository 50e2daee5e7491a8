noncomputable section
/-! ===== what stands at every point beside the world ===== -/
def sIAE : String := "java/lang/IllegalArgumentException"
def sNSE : String := "java/util/NoSuchElementException"
def sDcl : List String := ["java/lang/RuntimeException", "java/lang/Exception", "java/lang/Throwable"]
/-- the lengths of the constant texts -/
def sSln : List Nat := [30, 9, 5, 5, 6, 6, 7, 4, 6, 6, 5, 3, 5, 4, 2, 4, 5, 3, 3, 3, 3, 2, 12, 13, 12, 14, 24, 12, 32, 17, 5, 5, 6, 6, 7, 5, 4, 2, 4, 5, 3, 3, 3, 5, 3, 3, 2, 4, 6, 6]
/-- their bytes -/
def sSby : List (List Int) := [[116, 104, 101, 32, 116, 97, 112, 101, 32, 104, 97, 115, 32, 110, 111, 116, 32, 115, 111, 32, 109, 97, 110, 121, 32, 98, 121, 116, 101, 115], [59, 40, 41, 43, 45, 42, 47, 60, 61], [99, 108, 101, 114, 107], [99, 104, 105, 101, 102], [99, 111, 100, 105, 115, 116], [100, 111, 117, 98, 108, 101], [117, 110, 109, 111, 118, 101, 100], [108, 105, 110, 101], [115, 101, 99, 114, 101, 116], [103, 114, 117, 100, 103, 101], [116, 101, 108, 108, 115], [110, 111, 116], [119, 111, 114, 116, 104], [102, 114, 111, 109], [116, 111], [115, 97, 109, 101], [108, 111, 121, 97, 108], [107, 105, 110], [100, 97, 121], [111, 119, 110], [97, 110, 100], [111, 114], [110, 111, 32, 115, 117, 99, 104, 32, 119, 104, 97, 116], [110, 111, 32, 115, 117, 99, 104, 32, 97, 103, 101, 110, 116], [110, 111, 32, 115, 117, 99, 104, 32, 108, 105, 110, 101], [110, 111, 32, 115, 117, 99, 104, 32, 115, 101, 99, 114, 101, 116], [110, 111, 32, 115, 117, 99, 104, 32, 111, 110, 101, 32, 105, 110, 32, 116, 104, 101, 32, 99, 104, 97, 105, 110], [110, 111, 32, 115, 117, 99, 104, 32, 115, 105, 100, 101], [110, 111, 32, 108, 105, 110, 101, 32, 103, 111, 101, 115, 32, 102, 114, 111, 109, 32, 111, 110, 101, 32, 116, 111, 32, 104, 105, 109, 115, 101, 108, 102], [110, 111, 116, 32, 115, 111, 32, 109, 97, 110, 121, 32, 121, 101, 97, 114, 115], [99, 108, 101, 114, 107], [99, 104, 105, 101, 102], [99, 111, 100, 105, 115, 116], [100, 111, 117, 98, 108, 101], [117, 110, 109, 111, 118, 101, 100], [119, 111, 114, 116, 104], [102, 114, 111, 109], [116, 111], [115, 97, 109, 101], [108, 111, 121, 97, 108], [107, 105, 110], [100, 97, 121], [111, 119, 110], [116, 101, 108, 108, 115], [110, 111, 116], [97, 110, 100], [111, 114], [108, 105, 110, 101], [115, 101, 99, 114, 101, 116], [103, 114, 117, 100, 103, 101]]
/-- the constant texts: their bytes lie in rows of their own -/
def sTxt (ex : Nat → Nat) (n0 : Nat) (U : State) (H : Heap) : Prop :=
  (∀ (j n : Nat), sSln[j]? = some n → va_O "java/lang/String" (ex (j + 1)) (fun q => n0 ≤ q) U H ∧ va_OF "java/lang/String" "coder" "B" (.int 0) (ex (j + 1)) (fun q => n0 ≤ q) U H ∧ va_OF "java/lang/String" "value" "[B" (.ref (ex (j + 1000))) (ex (j + 1)) (fun q => n0 ≤ q) U H ∧ ∃ f : Nat → Int32, va_T .byte (ex (j + 1000)) n (fun k => .int (f k)) (fun q => n0 ≤ q) U H ∧ (∀ k, -128 ≤ (f k).toInt ∧ (f k).toInt ≤ 127) ∧ ∀ (bs : List Int) (k : Nat) (b : Int), sSby[j]? = some bs → bs[k]? = some b → (f k).toInt = b) ∧
  va_Z "java/lang/String" "COMPACT_STRINGS" "Z" (.int 1) (fun q => n0 ≤ q) U H ∧ va_Zq "jdk/internal/util/Preconditions" "SIOOBE_FORMATTER" "Ljava/util/function/BiFunction;" (fun q => n0 ≤ q) U H
theorem sTxt_to {ex : Nat → Nat} {n0 : Nat} {u U : State} {H H1 : Heap} (hvm : u.vm.Alike U.vm) (hq : ∀ a : Nat, a < H.size → ¬ n0 ≤ a → H1[a]? = H[a]?) (h : sTxt ex n0 u H) : sTxt ex n0 U H1 := by
  refine ⟨fun j n hj => ?_, (va_Z.moved hvm h.2.1).kept hq, (va_Zq.moved hvm h.2.2).kept hq⟩
  obtain ⟨h1, h2, h3, f, h4, h5⟩ := h.1 j n hj
  exact ⟨(va_O.moved hvm h1).kept hq, (va_OF.moved hvm h2).kept hq, (va_OF.moved hvm h3).kept hq, f, (va_T.moved hvm h4).kept hq, h5⟩
def sCtx (sc : Nat → Int32) (L : Nat) (ex : Nat → Nat) (g : sG) (n0 : Nat) (U : State) : Prop :=
  va_K g.1 vwCl (sTy g) U ∧
  (∀ (j : Nat) (q : String × Nat × String), sStr[j]? = some q → vk_R q.1 q.2.1 q.2.2 (ex (j + 1)) U ∧ va_Any "java/lang/String" U U.heap (ex (j + 1)) ∧ ex (j + 1) < n0) ∧
  (∀ q ∈ sNest, va_Nw (.methodLinkNest q.1 q.2.1 q.2.2.1 q.2.2.2) U) ∧
  (∀ E ∈ sExN, va_Nw (.castable E E) U) ∧
  va_AO "java/lang/String" U ∧
  vx_Zq Bundle.tN "UNASSIGNED_STACK" Bundle.steD (fun q => n0 ≤ q) U U.heap ∧ vx_Zq Bundle.tN "SUPPRESSED_SENTINEL" Bundle.listD (fun q => n0 ≤ q) U U.heap ∧
  va_X (ex 0) L sc U U.heap ∧ ex 0 < n0 ∧ n0 ≤ U.heap.size ∧ va_Nc sIAE sNSE U ∧ (∀ y ∈ sDcl, va_Nw (.declares (Bundle.initS y)) U) ∧ sTxt ex n0 U U.heap
theorem sAny_to {E : String} {s U : State} {H H1 : Heap} {a : Nat} (hvm : s.vm.Alike U.vm) (hq : H1[a]? = H[a]?) (h : va_Any E s H a) : va_Any E U H1 a := by
  obtain ⟨cv, h1, h2, ⟨k, hk⟩, h4⟩ := h
  obtain ⟨k', hk', -⟩ := hvm.2.2 _ _ hk
  exact ⟨cv, hq.trans h1, h2, ⟨k', hk'⟩, fun comp hc => by rw [hvm.assignable]; exact h4 comp (by rw [← hvm.findClass]; exact hc)⟩
theorem sNc_to {C T : String} {s U : State} (hvm : s.vm.Alike U.vm) (h : va_Nc C T s) : va_Nc C T U := by
  obtain ⟨c, t, h1, h2, h3⟩ := h
  exact ⟨c, t, by rw [hvm.findClass]; exact h1, by rw [hvm.findClass]; exact h2, by rw [hvm.assignable]; exact h3⟩
theorem sCtx_to {sc : Nat → Int32} {L : Nat} {ex : Nat → Nat} {g : sG} {n0 : Nat} {s U : State} {locs : List Loc} (h : sCtx sc L ex g n0 s) (hW : s.WarmedH U.vm) (hS : va_S (fun q => n0 ≤ q) s.heap U.heap locs) : sCtx sc L ex g n0 U := by
  obtain ⟨h1, h2, h3, h4, h5, h6, h7, h8, h10, h11, h12, h13, h14⟩ := h
  have hvm := hW.alike
  have old : ∀ a : Nat, a < n0 → U.heap[a]? = s.heap[a]? := fun a ha => hS.2.1 a (Nat.lt_of_lt_of_le ha h11) (Nat.not_le.mpr ha)
  refine ⟨va_K.moved hvm h1, fun j q hq => ?_, fun q hq => va_Nw.warmM hW (h3 q hq), fun E hE => va_Nw.warmC hW (h4 E hE), va_AO.moved hvm h5, (vx_Zq.moved hvm h6).kept hS.2.1, (vx_Zq.moved hvm h7).kept hS.2.1, va_X.moved hvm (va_X.kept h8 (old _ h10)), h10, Nat.le_trans h11 hS.1, sNc_to hvm h12, fun y hy => va_Nw.warmD hW (h13 y hy), sTxt_to hvm hS.2.1 h14⟩
  obtain ⟨q1, q2, q3⟩ := h2 j q hq
  exact ⟨vk_R.warm hW q1, sAny_to hvm (old _ q3) q2, q3⟩
theorem sCtx_call {sc : Nat → Int32} {L : Nat} {ex : Nat → Nat} {g : sG} {n0 : Nat} {U : State} (h : sCtx sc L ex g n0 U) (f : JFrame) (mk : MethodId) (a : Array Value) : sCtx sc L ex g n0 (U.calling f mk a) :=
  sCtx_to (s := U) (U := U.calling f mk a) (locs := []) h (State.WarmedH.refl U) va_S.rf
/-! ### instructions that read or write cells -/
def sEntH (own mn : String) (ins : Instr) (ax : List Nat) : Bool := match ins with
  | .getfield i => (match ax with
    | [ci, k, pos] => (match vwCl[ci]? with
      | some q => decide (k < q.2.2) && sAt pos (.fieldLink own i (q.2.1 k).1 (q.2.1 k).2.1 (q.2.1 k).2.2.1)
      | none => false)
    | [w, pos] => sAt pos (.fieldLink own i "java/lang/String" (if w = 0 then "value" else "coder") (if w = 0 then "[B" else "B"))
    | _ => false)
  | .getstatic i => (match ax with
    | [pos] => sAt pos (.fieldLink own i "java/lang/String" "COMPACT_STRINGS" "Z")
    | [pos, 1] => sAt pos (.fieldLink own i "jdk/internal/util/Preconditions" "SIOOBE_FORMATTER" "Ljava/util/function/BiFunction;")
    | _ => false)
  | .putfield i => (match ax with
    | [ci, k, pos, tc] => (match vwCl[ci]? with
      | some q => decide (k < q.2.2) && (sAt pos (.fieldLink own i (q.2.1 k).1 (q.2.1 k).2.1 (q.2.1 k).2.2.1) && ((match parseFieldDescriptor (q.2.1 k).2.2.1 with
          | some ty => sTc tc ty
          | none => false) && (!(q.2.1 k).2.2.2 || (decide (mn = "<init>") && decide ((q.2.1 k).1 = own)))))
      | none => false)
    | _ => false)
  | .new i => (match ax with
    | [0, ci, pos] => (match vwCl[ci]? with
      | some q => sAt pos (.classLink own i q.1)
      | none => false)
    | _ => false)
  | .anewarray i => (match ax with
    | [pos] => sAt pos (.classLink own i "java/lang/String")
    | _ => false)
  | .ldc i => (match ax with
    | [0, pos, v] => sAt pos (.constant own i (Int32.ofNat v))
    | [1, j] => (match sStr[j]? with
      | some q => decide (q.1 = own) && decide (q.2.1 = i)
      | none => false)
    | _ => false)
  | .ldc_w i => (match ax with
    | [0, pos, v] => sAt pos (.constant own i (Int32.ofNat v))
    | [1, j] => (match sStr[j]? with
      | some q => decide (q.1 = own) && decide (q.2.1 = i)
      | none => false)
    | _ => false)
  | .ldc2_w i => (match ax with
    | [pos, v] => sAt pos (.constantLong own i (Int64.ofNat v))
    | _ => false)
  | _ => true
/-! ### rows: which place, which bounds -/
def sObj (wd : List sC) (r : Int) : Option (Nat × List sV) := match fAt wd r.toNat with
  | some (.inl q) => some q
  | _ => none
def sLt (c : Option Int) (n : Nat) : Bool := match c with
  | some z => decide (z < (n : Int))
  | none => false
/-- a place within a row -/
def sIx (κ : sCx) (x : sV) (n : Nat) : Bool := decide (sK x = 0) && (decide (n ≤ 100000) && (match sRg κ.2.1 x with
  | some (lo, hi) => decide (0 ≤ lo) && (decide (hi < (n : Int)) || sLt (sUb κ.2.1 κ.2.2 2 x) n)
  | none => false))
theorem sIx_ok {ρ : List Int} {ads : List Nat} {ex : Nat → Nat} {κ : sCx} (hs : sCok ρ κ) {x : sV} {v : Value} {n : Nat} (hx : sRep ρ ads ex x v) (h : sIx κ x n = true) : ∃ (i : Int32) (j : Nat), v = .int i ∧ vp_in i n ∧ i.toNatClampNeg = j ∧ j < n ∧ sEv ρ x = some (j : Int) := by
  simp only [sIx, Bool.and_eq_true, decide_eq_true_eq] at h
  obtain ⟨hk, hn, h3⟩ := h
  split at h3
  · rename_i lo hi hr
    simp only [Bool.and_eq_true, Bool.or_eq_true, decide_eq_true_eq] at h3
    obtain ⟨u, rfl, hu⟩ := sRep_int hx hk
    obtain ⟨p1, p2, p3⟩ := sRg_ev hs.1 hu hr
    have eu := sI_toInt p3
    have hlt : u < (n : Int) := by
      rcases h3.2 with q | q
      · omega
      · unfold sLt at q
        split at q
        · rename_i z hz
          have := sUb_ok hs.1 hs.2 2 hu hz
          simp only [decide_eq_true_eq] at q
          omega
        · cases q
    refine ⟨_, u.toNat, rfl, vp_in_iff.mpr (by rw [eu]; omega), ?_, by omega, ?_⟩
    · show (Int32.ofInt u).toInt.toNat = u.toNat
      rw [eu]
    · rw [hu]
      congr 1
      omega
  · cases h3
/-- the rest that a place leaves by a list's length, where it is known -/
def sRr (m : Nat) (x : sV) (f : sFc) : Option Nat := match f with
  | (3, [a], [md, r]) => if md = m ∧ a.1 = x.1 then some (((r : Int) + (x.2 - a.2)) % (m : Int)).toNat else none
  | _ => none
def sRsF (m : Nat) (x : sV) : List sFc → Option Nat
  | [] => none
  | f :: t => match sRr m x f with
    | some k => some k
    | none => sRsF m x t
def sRs (κ : sCx) (x : sV) (m : Nat) : Option Nat := if m = 1 then some 0 else if x.1 = 0 then some (x.2 % (m : Int)).toNat else sRsF m x κ.2.2
theorem sRsF_ok {ρ : List Int} {m : Nat} {x : sV} {j k : Nat} (hm : 0 < m) (hj : sEv ρ x = some (j : Int)) : ∀ F : List sFc, (∀ f ∈ F, sPf ρ f) → sRsF m x F = some k → j % m = k
  | [], _, h => by cases h
  | f :: t, hF, h => by
    simp only [sRsF] at h
    split at h
    · rename_i k' hk
      cases h
      unfold sRr at hk
      split at hk
      · rename_i a md r
        split at hk
        · rename_i hc
          obtain ⟨rfl, e⟩ := hc
          cases hk
          obtain ⟨u, q, g1, g2⟩ := hF _ List.mem_cons_self
          have hd := sEv_same e g1 hj
          have e2 : (j : Int) = (r : Int) + (x.2 - a.2) + (md : Int) * q := by omega
          have e3 : ((r : Int) + (x.2 - a.2)) % (md : Int) = (j : Int) % (md : Int) := by
            rw [e2, Int.add_mul_emod_self_left]
          rw [e3]
          show j % md = ((j : Int) % (md : Int)).toNat
          rw [← Int.natCast_emod, Int.toNat_natCast]
        · cases hk
      · cases hk
    · exact sRsF_ok hm hj t (fun f hf => hF f (List.mem_cons_of_mem _ hf)) h
theorem sRs_ok {ρ : List Int} {κ : sCx} (hs : sCok ρ κ) {m : Nat} {x : sV} {j k : Nat} (hm : 0 < m) (hj : sEv ρ x = some (j : Int)) (h : sRs κ x m = some k) : j % m = k := by
  unfold sRs at h
  split at h
  · rename_i e
    subst e
    cases h
    exact Nat.mod_one j
  · split at h
    · rename_i h0
      cases h
      rw [← sEv0 h0 hj, ← Int.natCast_emod, Int.toNat_natCast]
    · exact sRsF_ok hm hj κ.2.2 hs.2 h
/-- bounds that hold of all places -/
def sHull : List (Int × Int) → Int × Int
  | [] => (-2147483648, 2147483647)
  | [q] => q
  | q :: t => (sMn2 q.1 (sHull t).1, sMx2 q.2 (sHull t).2)
theorem sHull_ok : ∀ (S : List (Int × Int)) (k : Nat) (q : Int × Int), S[k]? = some q → (sHull S).1 ≤ q.1 ∧ q.2 ≤ (sHull S).2
  | [], k, q, h => by simp at h
  | [a], k, q, h => by
    cases k with
    | zero => simp at h; subst h; exact ⟨Int.le_refl _, Int.le_refl _⟩
    | succ k => simp at h
  | a :: b :: t, k, q, h => by
    simp only [sHull]
    cases k with
    | zero =>
      simp at h
      subst h
      simp only [sMn2_eq, sMx2_eq]
      constructor <;> split <;> omega
    | succ k =>
      have ih := sHull_ok (b :: t) k q (by simpa using h)
      simp only [sMn2_eq, sMx2_eq]
      constructor <;> split <;> omega
def sBds (κ : sCx) (x : sV) (S : List (Int × Int)) : Int × Int := match sRs κ x S.length with
  | some k => S.getD k (sHull S)
  | none => sHull S
theorem sBds_ok {ρ : List Int} {κ : sCx} (hs : sCok ρ κ) {x : sV} {S : List (Int × Int)} {j : Nat} (hj : sEv ρ x = some (j : Int)) {lo hi : Int} (h : S[j % S.length]? = some (lo, hi)) : (sBds κ x S).1 ≤ lo ∧ hi ≤ (sBds κ x S).2 := by
  have hl : 0 < S.length := by
    cases S with
    | nil => simp at h
    | cons a t => simp
  unfold sBds
  split
  · rename_i k hk
    have e := sRs_ok hs hl hj hk
    rw [e] at h
    rw [List.getD_eq_getElem?_getD, h]
    exact ⟨Int.le_refl _, Int.le_refl _⟩
  · exact sHull_ok S _ _ h
end
