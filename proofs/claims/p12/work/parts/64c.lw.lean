noncomputable section
/-! ===== the law's loop ===== -/
def sEndL (u : sCu) (m0 : sMs) (e : sO) : Bool := match e with
  | (3, (κ, G, wd, pc, lv, st, _, _), _) => Nat.beq u.1 pc && sCutC 0 κ G wd lv st (some m0) u
  | _ => false
def sCas (PT : List sMd) (SM : List sIn) (Hh : gHt) (n d : Nat) (u C : sCu) (pc : Nat) : Bool := match sGoH PT SM Hh n d 0 [u.1] (C.2.1, C.2.2.1, C.2.2.2.1, pc, C.2.2.2.2.1, [], 0, 0) with
  | some (os, mc, ms) => Nat.ble mc 4 && (Nat.ble ms 24 && os.all fun o => sHd Hh 0 o (sEndL u C.2.2.2.2.2.2))
  | none => false
section SLW
variable {p : Program} {l : Launch} {e : Env} {Rm : Room} {s : State} {m : MethodId} {args : Array Value} {below : List Frame} {meth : Method} {c : Code} {H : Heap} {locs : List Loc} {cells slots : Nat} {Q : State → Prop} {ρ : List Int} {ex : Nat → Nat} {g : sG} {n0 L d : Nat} {sc : Nat → Int32} {ws : va_W} {M : sMd} {PT : List sMd} {SM : List sIn} {ls : Array Slot} {lc : List (Nat × Value)} {u C : sCu} {pc n : Nat} {Hh : gHt}
theorem sCas_ok (hPT : sOkP PT) (hS : ∀ I ∈ SM, sInOk PT I) (h : sCas PT SM Hh n d u C pc = true) (hM : PT[0]? = some M) (hF : sFix p l Rm s m args meth c M d ex g n0 L sc) (hcell : cells + 4 ≤ Rm.cells) (hslot : slots + 24 ≤ Rm.slots) (hus : u.2.2.2.2.2.1 = []) (hdef : (C.2.2.2.2.2.2.all fun q => sDef C.2.1.1 q.2) = true)
    (hs : sCok ρ C.2.1) (hG : ∀ f ∈ C.2.2.1, sWf (sAc ws) L sc ρ f) (hpt : sPt ρ ex g (fun q => n0 ≤ q) C.2.2.2.1 ws H s.heap locs) (hl : lv_has ls (mL M) lc) (hL : sA2 (sRL ρ (ws.map Prod.fst) ex) C.2.2.2.2.1 lc)
    (K : ∀ (ρ' : List Int) (ws' : va_W) (H' : Heap) (locs' : List Loc) (ls' : Array Slot) (lc' : List (Nat × Value)), sCok ρ' u.2.1 → (∀ f ∈ u.2.2.1, sWf (sAc ws') L sc ρ' f) → sPt ρ' ex g (fun q => n0 ≤ q) u.2.2.2.1 ws' H' s.heap locs' → lv_has ls' (mL M) lc' → sA2 (sRL ρ' (ws'.map Prod.fst) ex) u.2.2.2.2.1 lc' → sMu ρ' u.2.2.2.2.2.2 < sMu ρ C.2.2.2.2.2.2 → W p l e Rm s m args below meth c H' locs' (cells + 4) (slots + 24) Q (F0 m u.1 ls' [])) : W p l e Rm s m args below meth c H locs cells slots Q (F0 m pc ls []) := by
  unfold sCas at h
  split at h
  · rename_i os mc ms hrun
    simp only [Bool.and_eq_true] at h
    obtain ⟨h1, h2, h3⟩ := h
    have h1 := Nat.le_of_ble_eq_true h1
    have h2 := Nat.le_of_ble_eq_true h2
    have hg := sGoH_ok hPT hS n _ _ _ _ _ hrun
    have w : W p l e Rm s m args below meth c H locs (0 + cells) (0 + slots) Q (F0 m pc ls []) := by
      refine hg.2.2.2 M hM ρ ex g n0 L sc p l e Rm s m args below meth c Q hF cells slots (by show mc + cells ≤ _; omega) (by show ms + slots ≤ _; omega) ws H locs ls lc [] hs hG hpt hl hL trivial (fun o ho => ?_)
      intro ρ' ws' H' locs' ls' lc' vs' hr hp hs' hG' hpt' hl' hL' hS'
      obtain ⟨κ2, G2, he, hi, -⟩ := sHd_ex (List.all_eq_true.mp h3 o ho)
      obtain ⟨hs2, hG2⟩ := hi (sAc ws') L sc ρ' hs' hG'
      have hcm := (hg.2.2.1 o ho).1
      obtain ⟨k, ⟨κ, G, wd, pc', lv, st, cl, sl⟩, x⟩ := o
      unfold sEndL at he
      split at he
      · rename_i e0
        cases e0
        rw [Bool.and_eq_true] at he
        obtain ⟨hpc, he⟩ := he
        have hpc := Nat.eq_of_beq_eq_true hpc
        refine ⟨fun _ => ?_, fun q => by cases q⟩
        unfold sCutC at he
        generalize sSig κ2 G2 wd lv st u.2.1 u.2.2.1 u.2.2.2.1 u.2.2.2.2.1 u.2.2.2.2.2.1 0 = sg at he
        simp only [sCut1, Bool.and_eq_true] at he
        obtain ⟨h4, h5, h6, h7⟩ := he
        obtain ⟨hsg, q1, q2, q3⟩ := sCov_ok hs2 hG2 hpt'.1 h6
        obtain ⟨lc2, hl2, hL2⟩ := sSmV_ok hs2 hsg hl' hL' _ h4
        have hvs := sSmL_ok hs2 hsg _ _ _ h5 hS'
        rw [hus] at hvs
        have hv0 := sA2_nil hvs
        subst hv0
        have c1 : cl ≤ mc := hcm.1
        have c2 : sl ≤ ms := hcm.2.1
        refine W.widen (k := cells + 4) (n := slots + 24) (by show cl + cells ≤ _; omega) (by show sl + slots ≤ _; omega) ?_
        show W p l e Rm s m args below meth c H' locs' (cells + 4) (slots + 24) Q (F0 m pc' ls' [])
        rw [← hpc]
        refine K (sRz ρ' 0 sg) ws' H' locs' ls' lc2 q1 q2 ⟨q3, hpt'.2⟩ hl2 hL2 ?_
        unfold sFal at h7
        simp only at h7
        split at h7
        · rename_i m' hm'
          rw [(sMsb_ok hs2 hsg _ _ hm').1, ← sMu_mono hr hs.1 _ hdef]
          exact (sLex_ok hs2 _ _ h7).1
        · cases h7
      · cases he
    rw [Nat.zero_add, Nat.zero_add] at w
    exact w
  · cases h
end SLW
/-! ### the head: how far the script goes, which call -/
theorem lwd_23 : decode code 23 = .ok (.iload 4, 2) := by decide +kernel
theorem lwd_25 : decode code 25 = .ok (.aload_n 0, 1) := by decide +kernel
theorem lwd_26 : decode code 26 = .ok (.arraylength, 1) := by decide +kernel
theorem lwd_27 : decode code 27 = .ok (.bipush 6, 2) := by decide +kernel
theorem lwd_29 : decode code 29 = .ok (.isub, 1) := by decide +kernel
theorem lwd_30 : decode code 30 = .ok (.if_icmp .gt 1317, 3) := by decide +kernel
theorem lwd_33 : decode code 33 = .ok (.aload_n 0, 1) := by decide +kernel
theorem lwd_34 : decode code 34 = .ok (.iload 4, 2) := by decide +kernel
theorem lwd_36 : decode code 36 = .ok (.iaload, 1) := by decide +kernel
theorem lwd_37 : decode code 37 = .ok (.bipush 31, 2) := by decide +kernel
theorem lwd_39 : decode code 39 = .ok (.iand, 1) := by decide +kernel
def lwOffs : Array Int := #[144, 217, 245, 258, 286, 326, 366, 406, 458, 510, 550, 606, 634, 690, 746, 798, 811, 851, 879, 892, 932, 972, 1000, 1028, 1053, 1066, 1146, 1186, 1197, 1225, 1277, 1288]
theorem lwd_40 : decode code 40 = .ok (.tableswitch 1301 0 31 lwOffs, 144) := by decide +kernel
theorem lwd_1347 : decode code 1347 = .ok (.iconst 1, 1) := by decide +kernel
theorem lwd_1348 : decode code 1348 = .ok (.ireturn, 1) := by decide +kernel
theorem lw_31 (x : Int32) : ∃ k : Nat, k < 32 ∧ (x &&& 31).toInt = (k : Int) := by
  have hle : (x &&& 31).toBitVec.toNat ≤ 31 := by
    rw [Int32.toBitVec_and, BitVec.toNat_and]
    exact Nat.le_trans Nat.and_le_right (by decide)
  refine ⟨(x &&& 31).toBitVec.toNat, by omega, ?_⟩
  show (x &&& 31).toBitVec.toInt = _
  rw [BitVec.toInt_eq_toNat_of_lt (by omega)]
theorem lw_off : ∀ k, k < 32 → ∃ off : Int, lwOffs[k]? = some off ∧ (40 : Int) + off = ((lwPc.getD k 0 : Nat) : Int) := by decide +kernel
/-! ### the ghost text: what lies behind the script is chosen anew at each call -/
theorem sWf_10 {A : Nat → Nat → Int32} {L : Nat} {sc sc' : Nat → Int32} {ρ ρ' : List Int} {p : Nat} (h : sWf A L sc ρ (10, [], [p])) : sWf A L sc' ρ' (10, [], [p]) := fun j hj => h j hj
theorem sWf_17 {A : Nat → Nat → Int32} {L : Nat} {sc sc' : Nat → Int32} {ρ : List Int} {n : sV} (h : sWf A L sc ρ (17, [n], [])) : sWf A L sc' ρ (17, [n], []) := by
  obtain ⟨k, e1, p1, p2, p3⟩ := h
  exact ⟨k, e1, p1, p2, p3⟩
theorem gX_to {b L : Nat} {xs xs' : Nat → Int32} {U : State} {H : Heap} (h : va_X b L xs U H) (hq : ∀ j, j < L → xs' j = xs j) : va_X b L xs' U H := by
  obtain ⟨scr, h1, h2, h3, h4, h5⟩ := h
  exact ⟨scr, h1, h2, h3, h4, fun j hj => by rw [hq j hj]; exact h5 j hj⟩
theorem gFix_to {p : Program} {l : Launch} {Rm : Room} {s : State} {m : MethodId} {args : Array Value} {meth : Method} {c : Code} {M : sMd} {d : Nat} {ex : Nat → Nat} {g : sG} {n0 L : Nat} {sc sc' : Nat → Int32} (h : sFix p l Rm s m args meth c M d ex g n0 L sc) (hq : ∀ j, j < L → sc' j = sc j) : sFix p l Rm s m args meth c M d ex g n0 L sc' := by
  obtain ⟨h1, h2, h3, h4, h5, h6, h7, h8, h9, h10, h11, hc, h13⟩ := h
  obtain ⟨c1, c2, c3, c4, c5, c6, c7, c8, c9⟩ := hc
  exact ⟨h1, h2, h3, h4, h5, h6, h7, h8, h9, h10, h11, ⟨c1, c2, c3, c4, c5, c6, c7, gX_to c8 hq, c9⟩, h13⟩
theorem gA9_T {A : Nat → Nat → Int32} {L : Nat} {sc sc' : Nat → Int32} {ps : List Nat} {zs : List Int} (h : gA9 A L sc ps zs) : gA9 A L sc' ps zs := by
  unfold gA9 at h ⊢
  split at h
  · rename_i hh t
    try simp only
    generalize t.drop hh = d at h ⊢
    match d, h with
    | [], h => exact h
    | [_], h => exact h
    | id :: nr :: q, h =>
      obtain ⟨B, h1, h2⟩ := h
      exact ⟨B, h1, gF_T h2⟩
  · exact h
/-- facts on rows alone don't mind the script -/
theorem sWf_ns {A : Nat → Nat → Int32} {L : Nat} {sc sc' : Nat → Int32} {ρ : List Int} {f : sFc} (hk : (Nat.beq f.1 15 || (Nat.beq f.1 65 || (Nat.beq f.1 66 || (Nat.beq f.1 67 || (Nat.beq f.1 80 && gNt f.2.2))))) = true) (h : sWf A L sc ρ f) : sWf A L sc' ρ f := by
  unfold sWf at h ⊢
  split at h
  · exact h
  · exact h
  · exact h
  · exact h
  · exact h
  · exact h
  · exact h
  · exact h
  · exact h
  · exact h
  · exact h
  · cases hk
  · cases hk
  · cases hk
  · cases hk
  · cases hk
  · exact h
  · exact h
  · exact h
  · exact h
  · obtain ⟨zs, h1, h2⟩ := h
    exact ⟨zs, h1, gA9_T h2⟩
  · cases hk
  · trivial
theorem lT_k : lT.all (fun f => Nat.beq f.1 15 || (Nat.beq f.1 65 || (Nat.beq f.1 66 || (Nat.beq f.1 67 || (Nat.beq f.1 80 && gNt f.2.2))))) = true := by decide +kernel
theorem lT_sc {A : Nat → Nat → Int32} {L : Nat} {sc sc' : Nat → Int32} {ρ : List Int} (f : sFc) (hf : f ∈ lT) (h : sWf A L sc ρ f) : sWf A L sc' ρ f := sWf_ns (List.all_eq_true.mp lT_k f hf) h
/-- the length that is asked for -/
def gC1 (L : Nat) (sc : Nat → Int32) (z : Int32) (i : Nat) : Int32 := if i = L + 700 then z else sc i
theorem gC1_T {L : Nat} {sc : Nat → Int32} {z : Int32} {j : Nat} (hj : j < 700) : gT L (gC1 L sc z) j = gT L sc j := by
  unfold gT gC1
  rw [if_pos hj, if_pos hj, if_neg (by omega)]
theorem gC1_N {L : Nat} {sc : Nat → Int32} {z : Int32} : gN L (gC1 L sc z) = z.toInt.toNat := by
  unfold gN gC1
  rw [if_pos rfl]
theorem gC1_lo {L : Nat} {sc : Nat → Int32} {z : Int32} (j : Nat) (hj : j < L) : gC1 L sc z j = sc j := by
  unfold gC1
  rw [if_neg (by omega)]
/-- the tape behind a feed -/
def gC2 (L t : Nat) (sc : Nat → Int32) (f : Nat → Int) (i : Nat) : Int32 := if L + t ≤ i ∧ i < L + t + 20 then Int32.ofInt (f (i - (L + t))) else sc i
theorem gC2_lo {L t : Nat} {sc : Nat → Int32} {f : Nat → Int} (j : Nat) (hj : j < L) : gC2 L t sc f j = sc j := by
  unfold gC2
  rw [if_neg (by omega)]
theorem gC2_o {L t : Nat} {sc : Nat → Int32} {f : Nat → Int} {j : Nat} (hj : j < t ∨ t + 20 ≤ j) : gT L (gC2 L t sc f) j = gT L sc j := by
  unfold gT gC2
  by_cases h : j < 700
  · rw [if_pos h, if_pos h, if_neg (by omega)]
  · rw [if_neg h, if_neg h]
theorem gC2_i {L t : Nat} {sc : Nat → Int32} {f : Nat → Int} {k : Nat} (hk : k < 20) (h7 : t + k < 700) (h0 : 0 ≤ f k) (h1 : f k < 256) : gT L (gC2 L t sc f) (t + k) = f k := by
  unfold gT gC2
  rw [if_pos h7, if_pos (by omega), show L + (t + k) - (L + t) = k by omega, sI_toInt (sI_iff.mpr (by omega))]
  omega
/- from the loop's head the law comes to its end with true -/
set_option maxRecDepth 100000 in
theorem lw_loop {p : Program} {l : Launch} {e : Env} {s : State} {m : MethodId} {below : List Frame} {meth : Method} {c : Code} {ex : Nat → Nat} {g : sG} {L b : Nat} {PT : List sMd} {M : sMd} (hPT : sOkP PT) (hM : PT[0]? = some M) (hMC : mC M = code) (hML : mL M = 7) (hb0 : ex 0 = b) (hL : L ≤ 3072) (hret : meth.sig.returnType = ret)
    (hcase : ∀ k, k < 32 → k ≠ 0 → ∃ (SM : List sIn) (Hh : gHt) (n : Nat), (∀ I ∈ SM, sInOk PT I) ∧ sCas PT SM Hh n 500 lU lC (lwPc.getD k 0) = true) (hc0 : ∃ (SM : List sIn) (Hh : gHt) (n : Nat), (∀ I ∈ SM, sInOk PT I) ∧ sCas PT SM Hh n 500 lU lF (lwPc.getD 0 0) = true) (hc1 : ∃ (SM : List sIn) (Hh : gHt) (n : Nat), (∀ I ∈ SM, sInOk PT I) ∧ sCas PT SM Hh n 500 lU lG (lwPc.getD 0 0) = true) :
    ∀ (N cells slots : Nat) (sc : Nat → Int32) (_ : sFix p l room_1 s m #[Value.ref b] meth c M 500 ex g s.heap.size L sc) (ρ : List Int) (ws : va_W) (H : Heap) (locs : List Loc) (ls : Array Slot) (lc : List (Nat × Value)), sCok ρ lU.2.1 → (∀ f ∈ lU.2.2.1, sWf (sAc ws) L sc ρ f) → sPt ρ ex g (fun q => s.heap.size ≤ q) lU.2.2.2.1 ws H s.heap locs → lv_has ls (mL M) lc → sA2 (sRL ρ (ws.map Prod.fst) ex) lU.2.2.2.2.1 lc → sMu ρ lU.2.2.2.2.2.2 < 2147480576 + N → cells + 4 * N ≤ 600000 → slots + 24 * N ≤ 7200000 →
      W p l e room_1 s m #[Value.ref b] below meth c H locs cells slots (lw_Z below #[Value.ref b] s) (F0 m 23 ls []) := by
  intro N
  induction N with
  | zero =>
    intro cells slots sc hF ρ ws H locs ls lc hs hG hpt hl hLv hmu
    exfalso
    obtain ⟨y, hy, h1, h2⟩ := (show sQe ρ (78, 0, 3072) from hs.1.2.2 _ List.mem_cons_self) |> fun q => by
      unfold sQe at q
      rw [if_neg (by decide)] at q
      exact q
    have e1 : sEv ρ (172, 0) = some y := by
      rw [sEv_gen ⟨by decide, by decide⟩, if_pos (by decide)]
      show (ρ[78]?).map (fun y => y + 0) = some y
      rw [hy]
      show some (y + 0) = some y
      rw [Int.add_zero]
    have e2 : sMu ρ lU.2.2.2.2.2.2 = min (2147483648 - y).toNat 4294967296 * 4294967297 ^ 0 + 0 := by
      show sMv1 ρ (false, (172, 0)) * 4294967297 ^ 0 + 0 = _
      unfold sMv1
      simp only [e1]
      rfl
    simp only at h1 h2
    rw [e2, Nat.pow_zero, Nat.mul_one, Nat.add_zero] at hmu
    omega
  | succ N ih =>
    intro cells slots sc hF ρ ws H locs ls lc hs hG hpt hl hLv hmu hcells hslots
    obtain ⟨hx, hb, hml, hown, hts, hmn, hlk, htb, hfr, hlo, hst, hc, hrt⟩ := hF
    have hcode : c.code = code := hb.trans hMC
    have hF : sFix p l room_1 s m #[Value.ref b] meth c M 500 ex g s.heap.size L sc := ⟨hx, hb, hml, hown, hts, hmn, hlk, htb, hfr, hlo, hst, hc, hrt⟩
    obtain ⟨y, hy, y1, y2⟩ : ∃ y, ρ[78]? = some y ∧ 0 ≤ y ∧ y ≤ 3072 := by
      have q := hs.1.2.2 (78, 0, 3072) List.mem_cons_self
      unfold sQe at q
      rw [if_neg (by decide)] at q
      exact q
    have hρl : ρ.length = 85 := hs.1.1
    -- the locals
    obtain ⟨v0, lc1, rfl, ⟨i0, r0⟩, hLv1⟩ := sA2_cons hLv
    obtain ⟨v1, lc2, rfl, a1, hLv2⟩ := sA2_cons hLv1
    obtain ⟨v2, lc3, rfl, a2, hLv3⟩ := sA2_cons hLv2
    obtain ⟨v3, lc4, rfl, a3, hLv4⟩ := sA2_cons hLv3
    obtain ⟨v4, lc5, rfl, ⟨i4, r4⟩, hLv5⟩ := sA2_cons hLv4
    obtain ⟨j0, w0⟩ := v0
    obtain ⟨j4, w4⟩ := v4
    simp only at i0 i4 r0 r4
    subst i0
    subst i4
    have e0 : w0 = .ref b := by
      rw [← hb0]
      exact r0
    subst e0
    have hyI : (Int32.ofInt y).toInt = y := sI_toInt (sI_iff.mpr (by omega))
    have e4 : w4 = .int (Int32.ofInt y) := by
      obtain ⟨nn, hv, hn⟩ := sRep_int r4 rfl
      have e1 : sEv ρ (172, 0) = some y := by
        rw [sEv_gen ⟨by decide, by decide⟩, if_pos (by decide)]
        show (ρ[78]?).map (fun y => y + 0) = some y
        rw [hy]
        show some (y + 0) = some y
        rw [Int.add_zero]
      have hn2 : sEv ρ (172, 0) = some nn := hn
      rw [e1] at hn2
      cases hn2
      exact hv
    subst e4
    have g0 : ls[0]? = some (.val (.ref b)) := hl.2.2 _ List.mem_cons_self
    have g4 : ls[4]? = some (.val (.int (Int32.ofInt y))) := hl.2.2 (4, .int (Int32.ofInt y)) (by simp)
    have hXs := hc.2.2.2.2.2.2.2.1
    have hXb := hc.2.2.2.2.2.2.2.2.1
    rw [hb0] at hXs hXb
    refine lv_iload hx hcode lwd_23 g4 ?_
    refine lv_aload_n hx hcode lwd_25 rfl g0 ?_
    refine va_slen hx hcode hXs hXb (A := fun q => s.heap.size ≤ q) (Nat.not_le.mpr hXb) hpt.2.2.2 lwd_26 ?_
    refine lv_bipush hx hcode lwd_27 (v := 6) (by decide) ?_
    refine lv_isub hx hcode lwd_29 ?_
    have hLi : (Int32.ofNat L).toInt = (L : Int) := by
      rw [← Int32.ofInt_eq_ofNat]
      exact sI_toInt (sI_iff.mpr (by omega))
    have hLs : (Int32.ofNat L - 6).toInt = (L : Int) - 6 := by
      have e6 : Int32.ofNat L - 6 = Int32.ofInt ((L : Int) - 6) := by
        rw [Int32.ofInt_sub, Int32.ofInt_eq_ofNat]
        rfl
      rw [e6]
      exact sI_toInt (sI_iff.mpr (by omega))
    refine lv_icmp_gt hx hcode lwd_30 (tgt := 1347) (by decide) (fun _ => ?_) (fun hle => ?_)
    · refine lv_iconst hx hcode lwd_1347 (v := 1) (by decide) ?_
      exact va_forget (fun q hq => hpt.2.2.2.2.2 q hq) (W.widen (k := 601024) (n := 7293034) (by omega) (by omega) (lw_ret hx hcode hret hlk lwd_1348))
    · have hyL : y ≤ (L : Int) - 6 := by
        have q : ¬ (Int32.ofNat L - 6).toInt < (Int32.ofInt y).toInt := fun q => hle (Int32.lt_iff_toInt_lt.mpr q)
        rw [hLs, hyI] at q
        omega
      refine lv_aload_n hx hcode lwd_33 rfl g0 ?_
      refine lv_iload hx hcode lwd_34 g4 ?_
      refine va_sld hx hcode hXs hXb (A := fun q => s.heap.size ≤ q) (Nat.not_le.mpr hXb) hpt.2.2.2 (vp_in_iff.mpr (by rw [hyI]; omega)) lwd_36 ?_
      refine lv_bipush hx hcode lwd_37 (v := 31) (by decide) ?_
      refine lv_iand hx hcode lwd_39 ?_
      generalize sc (Int32.ofInt y).toNatClampNeg = z
      obtain ⟨k, hk, ek⟩ := lw_31 z
      obtain ⟨off, ho, hoff⟩ := lw_off k hk
      refine lv_tableIn hx hcode lwd_40 (by rw [ek]; omega) (by rw [ek]; omega) (by rw [ek, Int.sub_zero, Int.toNat_natCast]; exact ho) hoff ?_
      -- the numbers of the call
      have hρ' : ρ <+: ρ ++ [(sc (y + 1).toNat).toInt, (sc (y + 2).toNat).toInt, (sc (y + 3).toNat).toInt, (sc (y + 4).toNat).toInt, (sc (y + 5).toNat).toInt] := List.prefix_append _ _
      have hev : ∀ j : Int, sEv (ρ ++ [(sc (y + 1).toNat).toInt, (sc (y + 2).toNat).toInt, (sc (y + 3).toNat).toInt, (sc (y + 4).toNat).toInt, (sc (y + 5).toNat).toInt]) (172, j) = some (y + j) := fun j => by
        rw [sEv_gen ⟨by decide, by decide⟩, if_pos (by decide)]
        show (Option.map (fun y => y + j) (ρ ++ [(sc (y + 1).toNat).toInt, (sc (y + 2).toNat).toInt, (sc (y + 3).toNat).toInt, (sc (y + 4).toNat).toInt, (sc (y + 5).toNat).toInt])[78]?) = some (y + j)
        rw [sGetP hρ' hy]
        rfl
      have hnew : ∀ (j : Nat) (w : Int), ([(sc (y + 1).toNat).toInt, (sc (y + 2).toNat).toInt, (sc (y + 3).toNat).toInt, (sc (y + 4).toNat).toInt, (sc (y + 5).toNat).toInt] : List Int)[j]? = some w → sEv (ρ ++ [(sc (y + 1).toNat).toInt, (sc (y + 2).toNat).toInt, (sc (y + 3).toNat).toInt, (sc (y + 4).toNat).toInt, (sc (y + 5).toNat).toInt]) (16 + 2 * (85 + j), 0) = some w := fun j w hw => by
        rw [sEv_gen ⟨by omega, by omega⟩, if_pos (by omega), show (16 + 2 * (85 + j) - 16) / 2 = ρ.length + j by omega, List.getElem?_append_right (by omega), show ρ.length + j - ρ.length = j by omega, hw]
        show some (w + 0) = some w
        rw [Int.add_zero]
      have h21 : ∀ (sc' : Nat → Int32), (∀ j, j < L → sc' j = sc j) → ∀ (j : Nat) (jn : Int) (w : Int), ([(sc (y + 1).toNat).toInt, (sc (y + 2).toNat).toInt, (sc (y + 3).toNat).toInt, (sc (y + 4).toNat).toInt, (sc (y + 5).toNat).toInt] : List Int)[j]? = some w → 1 ≤ jn → jn ≤ 5 → w = (sc (y + jn).toNat).toInt → sWf (sAc ws) L sc' (ρ ++ [(sc (y + 1).toNat).toInt, (sc (y + 2).toNat).toInt, (sc (y + 3).toNat).toInt, (sc (y + 4).toNat).toInt, (sc (y + 5).toNat).toInt]) (21, [(172, jn), (16 + 2 * (85 + j), 0)], []) := fun sc' hsc j jn w hw q1 q2 q3 =>
        ⟨y + jn, w, hev jn, hnew j w hw, by omega, by omega, by rw [hsc _ (by omega)]; exact q3.symm⟩
      have hnum : ∀ w ∈ ρ ++ [(sc (y + 1).toNat).toInt, (sc (y + 2).toNat).toInt, (sc (y + 3).toNat).toInt, (sc (y + 4).toNat).toInt, (sc (y + 5).toNat).toInt], sI w = true := fun w hw => by
        rcases List.mem_append.mp hw with hw | hw
        · exact hs.1.2.1 w hw
        · simp only [List.mem_cons, List.not_mem_nil, or_false] at hw
          rcases hw with rfl | rfl | rfl | rfl | rfl <;> exact sI_of _
      have hlen : (ρ ++ [(sc (y + 1).toNat).toInt, (sc (y + 2).toNat).toInt, (sc (y + 3).toNat).toInt, (sc (y + 4).toNat).toInt, (sc (y + 5).toNat).toInt]).length = 90 := by rw [List.length_append, hρl]; rfl
      have hbnd : ∀ q ∈ ([(54, 0, 4), (83, 0, 4), (84, 0, 8), (1000000, 1, 0)] : List (Nat × Int × Int)), sQe (ρ ++ [(sc (y + 1).toNat).toInt, (sc (y + 2).toNat).toInt, (sc (y + 3).toNat).toInt, (sc (y + 4).toNat).toInt, (sc (y + 5).toNat).toInt]) q := fun q hq => sQe_mono hρ' (hs.1.2.2 q (List.mem_cons_of_mem _ hq))
      have hi66 : sQe (ρ ++ [(sc (y + 1).toNat).toInt, (sc (y + 2).toNat).toInt, (sc (y + 3).toNat).toInt, (sc (y + 4).toNat).toInt, (sc (y + 5).toNat).toInt]) (78, 0, 3066) := sQe_of (sGetP hρ' hy) y1 (by omega)
      have f0 : sWf (sAc ws) L sc ρ (10, [], [0]) := hG _ List.mem_cons_self
      have f1 : sWf (sAc ws) L sc ρ (10, [], [1]) := hG _ (List.mem_cons_of_mem _ List.mem_cons_self)
      have f2 : sWf (sAc ws) L sc ρ (17, [(150, 0)], []) := hG _ (List.mem_cons_of_mem _ (List.mem_cons_of_mem _ List.mem_cons_self))
      have f3 : sWf (sAc ws) L sc ρ (64, [(0, 0), (0, 0)], [1, 1]) := hG _ (List.mem_cons_of_mem _ (List.mem_cons_of_mem _ (List.mem_cons_of_mem _ List.mem_cons_self)))
      have f4 : sWf (sAc ws) L sc ρ (64, [(0, 0), (0, 0)], [99, 0]) := hG _ (List.mem_cons_of_mem _ (List.mem_cons_of_mem _ (List.mem_cons_of_mem _ (List.mem_cons_of_mem _ List.mem_cons_self))))
      have hT : ∀ f ∈ lT, sWf (sAc ws) L sc ρ f := fun f hf => hG f (List.mem_cons_of_mem _ (List.mem_cons_of_mem _ (List.mem_cons_of_mem _ (List.mem_cons_of_mem _ (List.mem_cons_of_mem _ hf)))))
      obtain ⟨u3, v3', e31, e32, p3⟩ := f3
      obtain ⟨u4, v4', e41, e42, p4⟩ := f4
      have z31 : u3 = 0 := (Option.some.inj e31).symm
      have z32 : v3' = 0 := (Option.some.inj e32).symm
      have z41 : u4 = 0 := (Option.some.inj e41).symm
      have z42 : v4' = 0 := (Option.some.inj e42).symm
      subst z31; subst z32; subst z41; subst z42
      have g1 : ∀ j : Nat, j < 700 → (sAc ws 1 j).toInt = gB 1 (gT L sc j) := fun j hj => p3 j hj (by omega)
      have g99 : ∀ j : Nat, j < 700 → (sAc ws 99 j).toInt = gB 0 (gT L sc j) := fun j hj => p4 j hj (by omega)
      have e5 : ∀ C : sCu, C.2.2.2.2.2.2 = [(false, (172, 0))] → sMu (ρ ++ [(sc (y + 1).toNat).toInt, (sc (y + 2).toNat).toInt, (sc (y + 3).toNat).toInt, (sc (y + 4).toNat).toInt, (sc (y + 5).toNat).toInt]) C.2.2.2.2.2.2 = sMu ρ lU.2.2.2.2.2.2 := fun C hC => by rw [hC]; exact sMu_mono hρ' hs.1 _ rfl
      -- all calls but a feed that is taken
      have gen : ∀ (C : sCu) (pc : Nat), C.2.1.1 = 90 → (∀ q ∈ C.2.1.2.1, sQe (ρ ++ [(sc (y + 1).toNat).toInt, (sc (y + 2).toNat).toInt, (sc (y + 3).toNat).toInt, (sc (y + 4).toNat).toInt, (sc (y + 5).toNat).toInt]) q) → C.2.1.2.2 = lU.2.1.2.2 → C.2.2.1 = lC.2.2.1 → C.2.2.2.1 = lW → C.2.2.2.2.1 = lU.2.2.2.2.1 → C.2.2.2.2.2.2 = [(false, (172, 0))] → (∃ (SM : List sIn) (Hh : gHt) (n : Nat), (∀ I ∈ SM, sInOk PT I) ∧ sCas PT SM Hh n 500 lU C pc = true) → W p l e room_1 s m #[Value.ref b] below meth c H locs cells slots (lw_Z below #[Value.ref b] s) (F0 m pc ls []) := by
        intro C pc hC1 hC2 hC3 hC4 hC5 hC6 hC7 hcs
        obtain ⟨SM, Hh, n, hSM, hcas⟩ := hcs
        have hF' := gFix_to (sc' := gC1 L sc (sc (y + 1).toNat)) hF gC1_lo
        refine sCas_ok (u := lU) (C := C) (ρ := ρ ++ [(sc (y + 1).toNat).toInt, (sc (y + 2).toNat).toInt, (sc (y + 3).toNat).toInt, (sc (y + 4).toNat).toInt, (sc (y + 5).toNat).toInt]) (ws := ws) (sc := gC1 L sc (sc (y + 1).toNat)) (lc := _ ) hPT hSM hcas hM hF' (by show _ ≤ 601024; omega) (by show _ ≤ 7293034; omega) rfl (by rw [hC7, hC1]; rfl) ?_ ?_ (by rw [hC5]; exact ⟨sRW_more hρ' hpt.1, hpt.2⟩) hl (by rw [hC6]; exact sLvM hρ' List.prefix_rfl hLv) ?_
        · exact ⟨⟨by rw [hC1]; exact hlen, hnum, hC2⟩, fun f hf => sPf_mono hρ' (hs.2 f (by rw [hC3] at hf; exact hf))⟩
        · intro f hf
          rw [hC4] at hf
          rcases List.mem_cons.mp hf with rfl | hf
          · exact h21 _ gC1_lo 0 1 _ rfl (by decide) (by decide) rfl
          rcases List.mem_cons.mp hf with rfl | hf
          · exact h21 _ gC1_lo 1 2 _ rfl (by decide) (by decide) rfl
          rcases List.mem_cons.mp hf with rfl | hf
          · exact h21 _ gC1_lo 2 3 _ rfl (by decide) (by decide) rfl
          rcases List.mem_cons.mp hf with rfl | hf
          · exact h21 _ gC1_lo 3 4 _ rfl (by decide) (by decide) rfl
          rcases List.mem_cons.mp hf with rfl | hf
          · exact h21 _ gC1_lo 4 5 _ rfl (by decide) (by decide) rfl
          rcases List.mem_cons.mp hf with rfl | hf
          · exact ⟨[_], ⟨hnew 0 _ rfl, trivial⟩, (gC1_N (L := L) (sc := sc) (z := sc (y + 1).toNat)).symm⟩
          rcases List.mem_cons.mp hf with rfl | hf
          · exact sWf_10 f0
          rcases List.mem_cons.mp hf with rfl | hf
          · exact sWf_10 f1
          rcases List.mem_cons.mp hf with rfl | hf
          · exact sWf_mono hρ' (sWf_17 f2)
          rcases List.mem_cons.mp hf with rfl | hf
          · exact ⟨0, 0, rfl, rfl, fun j hj _ => by rw [gC1_T hj]; exact g1 j hj⟩
          rcases List.mem_cons.mp hf with rfl | hf
          · exact ⟨0, 0, rfl, rfl, fun j hj _ => by rw [gC1_T hj]; exact g99 j hj⟩
          · exact sWf_mono hρ' (lT_sc f hf (hT f hf))
        · intro ρ2 ws2 H2 locs2 ls2 lc2 b1 b2 b3 b4 b5 b6
          rw [e5 C hC7] at b6
          exact ih (cells + 4) (slots + 24) _ hF' ρ2 ws2 H2 locs2 ls2 lc2 b1 b2 b3 b4 b5 (by omega) (by omega) (by omega)
      by_cases hk0 : k = 0
      · subst hk0
        obtain ⟨t, ht, t0, t7⟩ : ∃ t, ρ[0]? = some t ∧ 0 ≤ t ∧ t ≤ 700 := by
          have q := hs.1.2.2 (1000000, 1, 0) (List.mem_cons_of_mem _ (List.mem_cons_of_mem _ (List.mem_cons_of_mem _ (List.mem_cons_of_mem _ List.mem_cons_self))))
          unfold sQe at q
          rw [if_pos ⟨rfl, by decide⟩] at q
          exact q 0 (Int.ofNat 0, Int.ofNat 700) rfl
        by_cases hfit : t ≤ 680
        · obtain ⟨SM, Hh, n, hSM, hcas⟩ := hc0
          have hevt : ∀ j : Int, sEv (ρ ++ [(sc (y + 1).toNat).toInt, (sc (y + 2).toNat).toInt, (sc (y + 3).toNat).toInt, (sc (y + 4).toNat).toInt, (sc (y + 5).toNat).toInt]) (16, j) = some (t + j) := fun j => by
            rw [sEv_gen ⟨by decide, by decide⟩, if_pos (by decide)]
            show (Option.map (fun y => y + j) (ρ ++ [(sc (y + 1).toNat).toInt, (sc (y + 2).toNat).toInt, (sc (y + 3).toNat).toInt, (sc (y + 4).toNat).toInt, (sc (y + 5).toNat).toInt])[0]?) = some (t + j)
            rw [sGetP hρ' ht]
            rfl
          have hfb : ∀ k : Nat, 0 ≤ ((sc (y + 1 + (k / 4 : Nat)).toNat).toInt / 2 ^ (24 - 8 * (k % 4))) % 256 ∧ ((sc (y + 1 + (k / 4 : Nat)).toNat).toInt / 2 ^ (24 - 8 * (k % 4))) % 256 < 256 := fun k => ⟨Int.emod_nonneg _ (by decide), Int.emod_lt_of_pos _ (by decide)⟩
          have hF' := gFix_to (sc' := gC2 L t.toNat sc (fun k => ((sc (y + 1 + (k / 4 : Nat)).toNat).toInt / 2 ^ (24 - 8 * (k % 4))) % 256)) hF gC2_lo
          have h20 : ∀ (k s0 i : Nat) (jn : Int) (w : Int), k < 20 → s0 = 24 - 8 * (k % 4) → jn = (k : Int) → ([(sc (y + 1).toNat).toInt, (sc (y + 2).toNat).toInt, (sc (y + 3).toNat).toInt, (sc (y + 4).toNat).toInt, (sc (y + 5).toNat).toInt] : List Int)[i]? = some w → w = (sc (y + 1 + (k / 4 : Nat)).toNat).toInt → sWf (sAc ws) L (gC2 L t.toNat sc (fun k => ((sc (y + 1 + (k / 4 : Nat)).toNat).toInt / 2 ^ (24 - 8 * (k % 4))) % 256)) (ρ ++ [(sc (y + 1).toNat).toInt, (sc (y + 2).toNat).toInt, (sc (y + 3).toNat).toInt, (sc (y + 4).toNat).toInt, (sc (y + 5).toNat).toInt]) (60, [(16, jn), (16 + 2 * (85 + i), 0)], [20, s0]) := by
            intro k s0 i jn w hk hs0 hjn hw hww
            subst hs0; subst hjn
            refine ⟨[t + (k : Int), w], ⟨hevt k, hnew i w hw, trivial⟩, by omega, ?_⟩
            rw [show (t + (k : Int)).toNat = t.toNat + k by omega, gC2_i hk (by omega) (hfb k).1 (hfb k).2, hww]
          refine sCas_ok (u := lU) (C := lF) (ρ := ρ ++ [(sc (y + 1).toNat).toInt, (sc (y + 2).toNat).toInt, (sc (y + 3).toNat).toInt, (sc (y + 4).toNat).toInt, (sc (y + 5).toNat).toInt]) (ws := ws) (sc := gC2 L t.toNat sc (fun k => ((sc (y + 1 + (k / 4 : Nat)).toNat).toInt / 2 ^ (24 - 8 * (k % 4))) % 256)) (lc := _ ) hPT hSM hcas hM hF' (by show _ ≤ 601024; omega) (by show _ ≤ 7293034; omega) rfl rfl ?_ ?_ ⟨sRW_more hρ' hpt.1, hpt.2⟩ hl (sLvM hρ' List.prefix_rfl hLv) ?_
          · refine ⟨⟨hlen, hnum, fun q hq => ?_⟩, fun f hf => sPf_mono hρ' (hs.2 f hf)⟩
            rcases List.mem_cons.mp hq with rfl | hq
            · exact sQe_of (sGetP hρ' ht) t0 hfit
            rcases List.mem_cons.mp hq with rfl | hq
            · exact hi66
            · exact hbnd q hq
          · intro f hf
            rcases List.mem_cons.mp hf with rfl | hf
            · exact h21 _ gC2_lo 0 1 _ rfl (by decide) (by decide) rfl
            rcases List.mem_cons.mp hf with rfl | hf
            · exact h21 _ gC2_lo 1 2 _ rfl (by decide) (by decide) rfl
            rcases List.mem_cons.mp hf with rfl | hf
            · exact h21 _ gC2_lo 2 3 _ rfl (by decide) (by decide) rfl
            rcases List.mem_cons.mp hf with rfl | hf
            · exact h21 _ gC2_lo 3 4 _ rfl (by decide) (by decide) rfl
            rcases List.mem_cons.mp hf with rfl | hf
            · exact h21 _ gC2_lo 4 5 _ rfl (by decide) (by decide) rfl
            rcases List.mem_cons.mp hf with rfl | hf
            · exact h20 0 24 0 _ _ (by decide) rfl rfl rfl (by rw [show (y + 1 + ((0 / 4 : Nat) : Int)).toNat = (y + 1).toNat from congrArg Int.toNat (by omega)])
            rcases List.mem_cons.mp hf with rfl | hf
            · exact h20 1 16 0 _ _ (by decide) rfl rfl rfl (by rw [show (y + 1 + ((1 / 4 : Nat) : Int)).toNat = (y + 1).toNat from congrArg Int.toNat (by omega)])
            rcases List.mem_cons.mp hf with rfl | hf
            · exact h20 2 8 0 _ _ (by decide) rfl rfl rfl (by rw [show (y + 1 + ((2 / 4 : Nat) : Int)).toNat = (y + 1).toNat from congrArg Int.toNat (by omega)])
            rcases List.mem_cons.mp hf with rfl | hf
            · exact h20 3 0 0 _ _ (by decide) rfl rfl rfl (by rw [show (y + 1 + ((3 / 4 : Nat) : Int)).toNat = (y + 1).toNat from congrArg Int.toNat (by omega)])
            rcases List.mem_cons.mp hf with rfl | hf
            · exact h20 4 24 1 _ _ (by decide) rfl rfl rfl (by rw [show (y + 1 + ((4 / 4 : Nat) : Int)).toNat = (y + 2).toNat from congrArg Int.toNat (by omega)])
            rcases List.mem_cons.mp hf with rfl | hf
            · exact h20 5 16 1 _ _ (by decide) rfl rfl rfl (by rw [show (y + 1 + ((5 / 4 : Nat) : Int)).toNat = (y + 2).toNat from congrArg Int.toNat (by omega)])
            rcases List.mem_cons.mp hf with rfl | hf
            · exact h20 6 8 1 _ _ (by decide) rfl rfl rfl (by rw [show (y + 1 + ((6 / 4 : Nat) : Int)).toNat = (y + 2).toNat from congrArg Int.toNat (by omega)])
            rcases List.mem_cons.mp hf with rfl | hf
            · exact h20 7 0 1 _ _ (by decide) rfl rfl rfl (by rw [show (y + 1 + ((7 / 4 : Nat) : Int)).toNat = (y + 2).toNat from congrArg Int.toNat (by omega)])
            rcases List.mem_cons.mp hf with rfl | hf
            · exact h20 8 24 2 _ _ (by decide) rfl rfl rfl (by rw [show (y + 1 + ((8 / 4 : Nat) : Int)).toNat = (y + 3).toNat from congrArg Int.toNat (by omega)])
            rcases List.mem_cons.mp hf with rfl | hf
            · exact h20 9 16 2 _ _ (by decide) rfl rfl rfl (by rw [show (y + 1 + ((9 / 4 : Nat) : Int)).toNat = (y + 3).toNat from congrArg Int.toNat (by omega)])
            rcases List.mem_cons.mp hf with rfl | hf
            · exact h20 10 8 2 _ _ (by decide) rfl rfl rfl (by rw [show (y + 1 + ((10 / 4 : Nat) : Int)).toNat = (y + 3).toNat from congrArg Int.toNat (by omega)])
            rcases List.mem_cons.mp hf with rfl | hf
            · exact h20 11 0 2 _ _ (by decide) rfl rfl rfl (by rw [show (y + 1 + ((11 / 4 : Nat) : Int)).toNat = (y + 3).toNat from congrArg Int.toNat (by omega)])
            rcases List.mem_cons.mp hf with rfl | hf
            · exact h20 12 24 3 _ _ (by decide) rfl rfl rfl (by rw [show (y + 1 + ((12 / 4 : Nat) : Int)).toNat = (y + 4).toNat from congrArg Int.toNat (by omega)])
            rcases List.mem_cons.mp hf with rfl | hf
            · exact h20 13 16 3 _ _ (by decide) rfl rfl rfl (by rw [show (y + 1 + ((13 / 4 : Nat) : Int)).toNat = (y + 4).toNat from congrArg Int.toNat (by omega)])
            rcases List.mem_cons.mp hf with rfl | hf
            · exact h20 14 8 3 _ _ (by decide) rfl rfl rfl (by rw [show (y + 1 + ((14 / 4 : Nat) : Int)).toNat = (y + 4).toNat from congrArg Int.toNat (by omega)])
            rcases List.mem_cons.mp hf with rfl | hf
            · exact h20 15 0 3 _ _ (by decide) rfl rfl rfl (by rw [show (y + 1 + ((15 / 4 : Nat) : Int)).toNat = (y + 4).toNat from congrArg Int.toNat (by omega)])
            rcases List.mem_cons.mp hf with rfl | hf
            · exact h20 16 24 4 _ _ (by decide) rfl rfl rfl (by rw [show (y + 1 + ((16 / 4 : Nat) : Int)).toNat = (y + 5).toNat from congrArg Int.toNat (by omega)])
            rcases List.mem_cons.mp hf with rfl | hf
            · exact h20 17 16 4 _ _ (by decide) rfl rfl rfl (by rw [show (y + 1 + ((17 / 4 : Nat) : Int)).toNat = (y + 5).toNat from congrArg Int.toNat (by omega)])
            rcases List.mem_cons.mp hf with rfl | hf
            · exact h20 18 8 4 _ _ (by decide) rfl rfl rfl (by rw [show (y + 1 + ((18 / 4 : Nat) : Int)).toNat = (y + 5).toNat from congrArg Int.toNat (by omega)])
            rcases List.mem_cons.mp hf with rfl | hf
            · exact h20 19 0 4 _ _ (by decide) rfl rfl rfl (by rw [show (y + 1 + ((19 / 4 : Nat) : Int)).toNat = (y + 5).toNat from congrArg Int.toNat (by omega)])
            rcases List.mem_cons.mp hf with rfl | hf
            · exact sWf_10 f0
            rcases List.mem_cons.mp hf with rfl | hf
            · exact sWf_10 f1
            rcases List.mem_cons.mp hf with rfl | hf
            · exact sWf_mono hρ' (sWf_17 f2)
            rcases List.mem_cons.mp hf with rfl | hf
            · exact ⟨t + 0, t + 20, hevt 0, hevt 20, fun j hj hq => by rw [gC2_o (by omega)]; exact g1 j hj⟩
            rcases List.mem_cons.mp hf with rfl | hf
            · exact ⟨t + 0, t + 20, hevt 0, hevt 20, fun j hj hq => by rw [gC2_o (by omega)]; exact g99 j hj⟩
            · exact sWf_mono hρ' (lT_sc f hf (hT f hf))
          · intro ρ2 ws2 H2 locs2 ls2 lc2 b1 b2 b3 b4 b5 b6
            rw [e5 lF rfl] at b6
            exact ih (cells + 4) (slots + 24) _ hF' ρ2 ws2 H2 locs2 ls2 lc2 b1 b2 b3 b4 b5 (by omega) (by omega) (by omega)
        · refine gen lG _ rfl (fun q hq => ?_) rfl rfl rfl rfl rfl hc1
          rcases List.mem_cons.mp hq with rfl | hq
          · exact sQe_of (sGetP hρ' ht) (by omega) t7
          rcases List.mem_cons.mp hq with rfl | hq
          · exact hi66
          · exact hbnd q hq
      · refine gen lC _ rfl (fun q hq => ?_) rfl rfl rfl rfl rfl (hcase k hk hk0)
        rcases List.mem_cons.mp hq with rfl | hq
        · exact hi66
        · exact hbnd q hq
end
