noncomputable section
section RU
variable {A : Nat → Nat → Int32} {L : Nat} {sc : Nat → Int32} {ρ : List Int} {κ : sCx} {G : List sFc}
/-! ### the steps' table -/
abbrev gSf : Type := sCx → List sFc → List sV → List Nat → List sFc
def gSk (f : gSf) : Prop := ∀ (A : Nat → Nat → Int32) (L : Nat) (sc : Nat → Int32) (ρ : List Int) (κ : sCx) (G : List sFc), sCok ρ κ → (∀ f ∈ G, sWf A L sc ρ f) → ∀ (vs : List sV) (cs : List Nat), ∀ g ∈ f κ G vs cs, gSo A L sc ρ g
def gTo : List gSf := [fun κ G vs cs => gOl (gR0 κ G vs cs), fun κ G vs cs => gOl (gR1 κ G vs cs), fun κ G vs cs => gOl (gR2 κ G vs cs), fun κ G vs cs => gOl (gR3 κ G vs cs), fun κ G vs cs => gOl (gR4 κ G vs cs), fun κ G vs cs => gOl (gR5 κ G vs cs), fun κ G vs cs => gOl (gR6 κ G vs cs), fun κ G vs cs => gOl (gR7 κ G vs cs), fun κ G vs cs => gOl (gR8 κ G vs cs), fun κ G vs cs => gOl (gR9 κ G vs cs), fun κ G vs cs => gOl (gR10 κ G vs cs), fun κ G vs cs => gOl (gR11 κ G vs cs), fun κ G vs cs => gOl (gR12 κ G vs cs), fun κ G vs cs => gOl (gR13 κ G vs cs), gLc, gS15, gS16, gS17, gS18, gS19, gS20, gS21, gS22, gSx gW23, gSx gW24, gSx gW25, gSx gW26, gSx gW27, gSx gW28, gSx gW29, gSx gW30, gSx gW31, gSx gW32, gSx gW33, gSz, gSx gW35, gSx gW36, gSx gW37, gSx gW38, gSz, gSx gW40, gSx gW41, gSx gW42, gSx gW43, gSx gW44, gSx gW45, gSx gW46, gSz, gSz, gSx gW49, gSx gW50, gSx gW51]
theorem gTo_ok : ∀ f ∈ gTo, gSk f := gMc (fun A L sc ρ κ G hs hG vs cs => gOl_ok (fun f h => gR0_ok hs h)) (gMc (fun A L sc ρ κ G hs hG vs cs => gOl_ok (fun f h => gR1_ok hs hG h)) (gMc (fun A L sc ρ κ G hs hG vs cs => gOl_ok (fun f h => gR2_ok hs hG h)) (gMc (fun A L sc ρ κ G hs hG vs cs => gOl_ok (fun f h => gR3_ok hs hG h)) (gMc (fun A L sc ρ κ G hs hG vs cs => gOl_ok (fun f h => gR4_ok hs hG h)) (gMc (fun A L sc ρ κ G hs hG vs cs => gOl_ok (fun f h => gR5_ok hs hG h)) (gMc (fun A L sc ρ κ G hs hG vs cs => gOl_ok (fun f h => gR6_ok hs hG h)) (gMc (fun A L sc ρ κ G hs hG vs cs => gOl_ok (fun f h => gR7_ok hs hG h)) (gMc (fun A L sc ρ κ G hs hG vs cs => gOl_ok (fun f h => gR8_ok hs hG h)) (gMc (fun A L sc ρ κ G hs hG vs cs => gOl_ok (fun f h => gR9_ok hs hG h)) (gMc (fun A L sc ρ κ G hs hG vs cs => gOl_ok (fun f h => gR10_ok hs hG h)) (gMc (fun A L sc ρ κ G hs hG vs cs => gOl_ok (fun f h => gR11_ok hs h)) (gMc (fun A L sc ρ κ G hs hG vs cs => gOl_ok (fun f h => gR12_ok hs hG h)) (gMc (fun A L sc ρ κ G hs hG vs cs => gOl_ok (fun f h => gR13_ok hs hG h)) (gMc (fun A L sc ρ κ G hs hG vs cs => gLc_ok hs hG) (gMc (fun A L sc ρ κ G hs hG vs cs => gS15_ok hs hG) (gMc (fun A L sc ρ κ G hs hG vs cs => gS16_ok hs hG) (gMc (fun A L sc ρ κ G hs hG vs cs => gS17_ok hs) (gMc (fun A L sc ρ κ G hs hG vs cs => gS18_ok ) (gMc (fun A L sc ρ κ G hs hG vs cs => gS19_ok hs hG) (gMc (fun A L sc ρ κ G hs hG vs cs => gS20_ok hs hG) (gMc (fun A L sc ρ κ G hs hG vs cs => gS21_ok hs hG) (gMc (fun A L sc ρ κ G hs hG vs cs => gS22_ok hs hG) (gMc (gSx_ok gW23_ok) (gMc (gSx_ok gW24_ok) (gMc (gSx_ok gW25_ok) (gMc (gSx_ok gW26_ok) (gMc (gSx_ok gW27_ok) (gMc (gSx_ok gW28_ok) (gMc (gSx_ok gW29_ok) (gMc (gSx_ok gW30_ok) (gMc (gSx_ok gW31_ok) (gMc (gSx_ok gW32_ok) (gMc (gSx_ok gW33_ok) (gMc (gSz_ok) (gMc (gSx_ok gW35_ok) (gMc (gSx_ok gW36_ok) (gMc (gSx_ok gW37_ok) (gMc (gSx_ok gW38_ok) (gMc (gSz_ok) (gMc (gSx_ok gW40_ok) (gMc (gSx_ok gW41_ok) (gMc (gSx_ok gW42_ok) (gMc (gSx_ok gW43_ok) (gMc (gSx_ok gW44_ok) (gMc (gSx_ok gW45_ok) (gMc (gSx_ok gW46_ok) (gMc (gSz_ok) (gMc (gSz_ok) (gMc (gSx_ok gW49_ok) (gMc (gSx_ok gW50_ok) (gMc (gSx_ok gW51_ok) (gMn))))))))))))))))))))))))))))))))))))))))))))))))))))
def gTy0 : List gSf := [gSe gX_CG, gSe gX_tr, gSe gX_rb, gSe gX_SA0, gSe gX_SA4, gSe gX_SAe, gSe gX_SAn, gSe gX_SAr, gSe gX_SAq, gSe gX_SG0, gSe gX_SGa, gSe gX_SGb, gSe gX_SGe, gSe gX_SGn]
theorem gTy0_ok : ∀ f ∈ gTy0, gSk f := (gMc (fun A L sc ρ κ G hs hG vs cs => gSe_ok gX_CG_ok A L sc ρ κ G hs hG vs cs) (gMc (fun A L sc ρ κ G hs hG vs cs => gSe_ok gX_tr_ok A L sc ρ κ G hs hG vs cs) (gMc (fun A L sc ρ κ G hs hG vs cs => gSe_ok gX_rb_ok A L sc ρ κ G hs hG vs cs) (gMc (fun A L sc ρ κ G hs hG vs cs => gSe_ok gX_SA0_ok A L sc ρ κ G hs hG vs cs) (gMc (fun A L sc ρ κ G hs hG vs cs => gSe_ok gX_SA4_ok A L sc ρ κ G hs hG vs cs) (gMc (fun A L sc ρ κ G hs hG vs cs => gSe_ok gX_SAe_ok A L sc ρ κ G hs hG vs cs) (gMc (fun A L sc ρ κ G hs hG vs cs => gSe_ok gX_SAn_ok A L sc ρ κ G hs hG vs cs) (gMc (fun A L sc ρ κ G hs hG vs cs => gSe_ok gX_SAr_ok A L sc ρ κ G hs hG vs cs) (gMc (fun A L sc ρ κ G hs hG vs cs => gSe_ok gX_SAq_ok A L sc ρ κ G hs hG vs cs) (gMc (fun A L sc ρ κ G hs hG vs cs => gSe_ok gX_SG0_ok A L sc ρ κ G hs hG vs cs) (gMc (fun A L sc ρ κ G hs hG vs cs => gSe_ok gX_SGa_ok A L sc ρ κ G hs hG vs cs) (gMc (fun A L sc ρ κ G hs hG vs cs => gSe_ok gX_SGb_ok A L sc ρ κ G hs hG vs cs) (gMc (fun A L sc ρ κ G hs hG vs cs => gSe_ok gX_SGe_ok A L sc ρ κ G hs hG vs cs) (gMc (fun A L sc ρ κ G hs hG vs cs => gSe_ok gX_SGn_ok A L sc ρ κ G hs hG vs cs) gMn))))))))))))))
def gTy1 : List gSf := [gSe gX_SGr, gSe gX_SGs, gSe gX_FA0, gSe gX_FA4, gSe gX_FAn, gSe gX_FAy, gSe gX_AM0, gSe gX_AMy, gSe gX_AMn, gSe gX_AMe, gSe gX_BA, gSe gX_BG, gSe gX_BA8, gSe gX_rb0]
theorem gTy1_ok : ∀ f ∈ gTy1, gSk f := (gMc (fun A L sc ρ κ G hs hG vs cs => gSe_ok gX_SGr_ok A L sc ρ κ G hs hG vs cs) (gMc (fun A L sc ρ κ G hs hG vs cs => gSe_ok gX_SGs_ok A L sc ρ κ G hs hG vs cs) (gMc (fun A L sc ρ κ G hs hG vs cs => gSe_ok gX_FA0_ok A L sc ρ κ G hs hG vs cs) (gMc (fun A L sc ρ κ G hs hG vs cs => gSe_ok gX_FA4_ok A L sc ρ κ G hs hG vs cs) (gMc (fun A L sc ρ κ G hs hG vs cs => gSe_ok gX_FAn_ok A L sc ρ κ G hs hG vs cs) (gMc (fun A L sc ρ κ G hs hG vs cs => gSe_ok gX_FAy_ok A L sc ρ κ G hs hG vs cs) (gMc (fun A L sc ρ κ G hs hG vs cs => gSe_ok gX_AM0_ok A L sc ρ κ G hs hG vs cs) (gMc (fun A L sc ρ κ G hs hG vs cs => gSe_ok gX_AMy_ok A L sc ρ κ G hs hG vs cs) (gMc (fun A L sc ρ κ G hs hG vs cs => gSe_ok gX_AMn_ok A L sc ρ κ G hs hG vs cs) (gMc (fun A L sc ρ κ G hs hG vs cs => gSe_ok gX_AMe_ok A L sc ρ κ G hs hG vs cs) (gMc (fun A L sc ρ κ G hs hG vs cs => gSe_ok gX_BA_ok A L sc ρ κ G hs hG vs cs) (gMc (fun A L sc ρ κ G hs hG vs cs => gSe_ok gX_BG_ok A L sc ρ κ G hs hG vs cs) (gMc (fun A L sc ρ κ G hs hG vs cs => gSe_ok gX_BA8_ok A L sc ρ κ G hs hG vs cs) (gMc (fun A L sc ρ κ G hs hG vs cs => gSe_ok gX_rb0_ok A L sc ρ κ G hs hG vs cs) gMn))))))))))))))
def gTy2 : List gSf := [gSe gX_rb1, gSe gX_rb2, gSe gX_rb3, gSe gX_rb11, gSe gX_U4, gSe gX_U6, gSe gX_BT, gSe gX_BU]
theorem gTy2_ok : ∀ f ∈ gTy2, gSk f := (gMc (fun A L sc ρ κ G hs hG vs cs => gSe_ok gX_rb1_ok A L sc ρ κ G hs hG vs cs) (gMc (fun A L sc ρ κ G hs hG vs cs => gSe_ok gX_rb2_ok A L sc ρ κ G hs hG vs cs) (gMc (fun A L sc ρ κ G hs hG vs cs => gSe_ok gX_rb3_ok A L sc ρ κ G hs hG vs cs) (gMc (fun A L sc ρ κ G hs hG vs cs => gSe_ok gX_rb11_ok A L sc ρ κ G hs hG vs cs) (gMc (fun A L sc ρ κ G hs hG vs cs => gSe_ok gX_U4_ok A L sc ρ κ G hs hG vs cs) (gMc (fun A L sc ρ κ G hs hG vs cs => gSe_ok gX_U6_ok A L sc ρ κ G hs hG vs cs) (gMc (fun A L sc ρ κ G hs hG vs cs => gSe_ok gX_BT_ok A L sc ρ κ G hs hG vs cs) (gMc (fun A L sc ρ κ G hs hG vs cs => gSe_ok gX_BU_ok A L sc ρ κ G hs hG vs cs) gMn))))))))
def gTb : List gSf := [fun κ G vs cs => gOl (gR0 κ G vs cs), fun κ G vs cs => gOl (gR1 κ G vs cs), fun κ G vs cs => gOl (gR2 κ G vs cs), fun κ G vs cs => gOl (gR3 κ G vs cs), fun κ G vs cs => gOl (gR4 κ G vs cs), fun κ G vs cs => gOl (gR5 κ G vs cs), fun κ G vs cs => gOl (gR6 κ G vs cs), fun κ G vs cs => gOl (gR7 κ G vs cs), fun κ G vs cs => gOl (gR8 κ G vs cs), fun κ G vs cs => gOl (gR9 κ G vs cs), fun κ G vs cs => gOl (gR10 κ G vs cs), fun κ G vs cs => gOl (gR11 κ G vs cs), fun κ G vs cs => gOl (gR12 κ G vs cs), fun κ G vs cs => gOl (gR13 κ G vs cs), gLc, gS15, gS16, gS17, gS18, gS19, gS20, gS21, gS22, gSx gW23, gSx gW24, gSx gW25, gSx gW26, gSx gW27, gSx gW28, gSx gW29, gSx gW30, gSx gW31, gSx gW32, gSx gW33, gSz, gSx gW35, gSx gW36, gSx gW37, gSx gW38, gSz, gSx gW40, gSx gW41, gSx gW42, gSx gW43, gSx gW44, gSx gW45, gSx gW46, gSz, gSz, gSx gW49, gSx gW50, gSx gW51, gSe gX_CG, gSe gX_tr, gSe gX_rb, gSe gX_SA0, gSe gX_SA4, gSe gX_SAe, gSe gX_SAn, gSe gX_SAr, gSe gX_SAq, gSe gX_SG0, gSe gX_SGa, gSe gX_SGb, gSe gX_SGe, gSe gX_SGn, gSe gX_SGr, gSe gX_SGs, gSe gX_FA0, gSe gX_FA4, gSe gX_FAn, gSe gX_FAy, gSe gX_AM0, gSe gX_AMy, gSe gX_AMn, gSe gX_AMe, gSe gX_BA, gSe gX_BG, gSe gX_BA8, gSe gX_rb0, gSe gX_rb1, gSe gX_rb2, gSe gX_rb3, gSe gX_rb11, gSe gX_U4, gSe gX_U6, gSe gX_BT, gSe gX_BU]
theorem gTb_app : gTb = gTo ++ gTy0 ++ gTy1 ++ gTy2 := rfl
theorem gTb_ok : ∀ f ∈ gTb, gSk f := by
  rw [gTb_app]
  exact (gMq (gMq (gMq gTo_ok gTy0_ok) gTy1_ok) gTy2_ok)
abbrev gSp1 : Type := Nat × List sV × List Nat
def gSt (κ : sCx) (G : List sFc) (q : gSp1) : List sFc := match fAt gTb q.1 with
  | some f => f κ G q.2.1 q.2.2
  | none => []
theorem gSt_ok (hs : sCok ρ κ) (hG : ∀ f ∈ G, sWf A L sc ρ f) {q : gSp1} : ∀ g ∈ gSt κ G q, gSo A L sc ρ g := by
  intro g hg
  unfold gSt at hg
  rw [fAt_eq] at hg
  split at hg
  · rename_i f hf
    exact gTb_ok f (List.mem_of_getElem? hf) A L sc ρ κ G hs hG _ _ g hg
  · cases hg
end RU
/-- what follows from one state's facts are another's -/
def gImp (κ : sCx) (G : List sFc) (κ' : sCx) (G' : List sFc) : Prop := ∀ (A : Nat → Nat → Int32) (L : Nat) (sc : Nat → Int32) (ρ : List Int), sCok ρ κ → (∀ f ∈ G, sWf A L sc ρ f) → sCok ρ κ' ∧ ∀ f ∈ G', sWf A L sc ρ f
theorem gImp_rfl {κ : sCx} {G : List sFc} : gImp κ G κ G := fun _ _ _ _ hs hG => ⟨hs, hG⟩
theorem gImp_tr {κ κ1 κ2 : sCx} {G G1 G2 : List sFc} (h1 : gImp κ G κ1 G1) (h2 : gImp κ1 G1 κ2 G2) : gImp κ G κ2 G2 := fun A L sc ρ hs hG => h2 A L sc ρ (h1 A L sc ρ hs hG).1 (h1 A L sc ρ hs hG).2
def gPut {α : Type} (fs : List sFc) (κ : sCx) (G : List sFc) (k : sCx → List sFc → α) : α := List.rec (motive := fun _ => sCx → List sFc → α) (fun κ G => k κ G) (fun f _ ih κ G => Bool.rec (motive := fun _ => α) (ih κ (f :: G)) (ih (κ.1, κ.2.1, f :: κ.2.2) G) (Nat.blt f.1 10)) fs κ G
theorem gPut_ex {α : Type} {k : sCx → List sFc → α} : ∀ (fs : List sFc) (κ : sCx) (G : List sFc), ∃ κ' G', gPut fs κ G k = k κ' G' ∧ ∀ (A : Nat → Nat → Int32) (L : Nat) (sc : Nat → Int32) (ρ : List Int), (∀ g ∈ fs, gSo A L sc ρ g) → sCok ρ κ → (∀ f ∈ G, sWf A L sc ρ f) → sCok ρ κ' ∧ ∀ f ∈ G', sWf A L sc ρ f
  | [], κ, G => ⟨κ, G, rfl, fun _ _ _ _ _ hs hG => ⟨hs, hG⟩⟩
  | f :: fs, κ, G => by
    have hu : gPut (f :: fs) κ G k = Bool.rec (motive := fun _ => α) (gPut fs κ (f :: G) k) (gPut fs (κ.1, κ.2.1, f :: κ.2.2) G k) (Nat.blt f.1 10) := rfl
    cases e : Nat.blt f.1 10 with
    | false =>
      rw [e] at hu
      obtain ⟨κ', G', h1, h2⟩ := gPut_ex (k := k) fs κ (f :: G)
      refine ⟨κ', G', hu.trans h1, fun A L sc ρ ho hs hG => h2 A L sc ρ (fun g hg => ho g (List.mem_cons_of_mem _ hg)) hs (fun g hg => ?_)⟩
      rcases List.mem_cons.mp hg with rfl | hg
      · refine (ho _ List.mem_cons_self).2 (fun q => ?_)
        have : Nat.blt g.1 10 = true := Nat.ble_eq_true_of_le q
        rw [e] at this
        cases this
      · exact hG g hg
    | true =>
      rw [e] at hu
      obtain ⟨κ', G', h1, h2⟩ := gPut_ex (k := k) fs (κ.1, κ.2.1, f :: κ.2.2) G
      refine ⟨κ', G', hu.trans h1, fun A L sc ρ ho hs hG => h2 A L sc ρ (fun g hg => ho g (List.mem_cons_of_mem _ hg)) ⟨hs.1, fun g hg => ?_⟩ hG⟩
      rcases List.mem_cons.mp hg with rfl | hg
      · exact (ho _ List.mem_cons_self).1 (Nat.le_of_ble_eq_true e)
      · exact hs.2 g hg
def gDr {α : Type} (hs : List gSp1) (κ : sCx) (G : List sFc) (k : sCx → List sFc → α) : α := List.rec (motive := fun _ => sCx → List sFc → α) (fun κ G => k κ G) (fun s _ ih κ G => gPut (gSt κ G s) κ G ih) hs κ G
theorem gDr_ex {α : Type} {k : sCx → List sFc → α} : ∀ (hs : List gSp1) (κ : sCx) (G : List sFc), ∃ κ' G', gDr hs κ G k = k κ' G' ∧ gImp κ G κ' G'
  | [], κ, G => ⟨κ, G, rfl, gImp_rfl⟩
  | s :: t, κ, G => by
    have hu : gDr (s :: t) κ G k = gPut (gSt κ G s) κ G (fun κ G => gDr t κ G k) := rfl
    obtain ⟨κ1, G1, h1, h2⟩ := gPut_ex (k := fun κ G => gDr t κ G k) (gSt κ G s) κ G
    obtain ⟨κ', G', h3, h4⟩ := gDr_ex (k := k) t κ1 G1
    exact ⟨κ', G', (hu.trans h1).trans h3, gImp_tr (fun A L sc ρ hs hG => h2 A L sc ρ (gSt_ok hs hG) hs hG) h4⟩
/-! ===== the walker with hints: at a method's place these steps are tried ===== -/
abbrev gHt : Type := List (Nat × Nat × List gSp1)
def gLk (H : gHt) (mi pc : Nat) : List gSp1 := List.rec (motive := fun _ => List gSp1) [] (fun q _ ih => Bool.rec (motive := fun _ => List gSp1) ih (Bool.rec (motive := fun _ => List gSp1) ih q.2.2 (Nat.beq q.1 mi)) (Nat.beq q.2.1 pc)) H
/-- a state whose facts say that 0 is not less than 1 -/
def gAb1 (g : sFc) : Bool := Nat.beq g.1 0 && (match g.2.1 with
  | [a, b] => Nat.beq a.1 0 && (Nat.beq b.1 0 && decide (a.2 < b.2))
  | _ => false)
def gAbs (κ : sCx) : Bool := κ.2.2.any gAb1
theorem gAbs_ok {ρ : List Int} {κ : sCx} (hs : sCok ρ κ) (h : gAbs κ = true) : False := by
  obtain ⟨g, hg, h1⟩ := List.any_eq_true.mp h
  have hp := hs.2 g hg
  obtain ⟨t, as, ps⟩ := g
  unfold gAb1 at h1
  rw [Bool.and_eq_true] at h1
  have h2 : t = 0 := Nat.eq_of_beq_eq_true h1.1
  subst h2
  have h3 := h1.2
  split at h3
  · rename_i a b e
    have e : as = [a, b] := e
    subst e
    simp only [Bool.and_eq_true, decide_eq_true_eq] at h3
    obtain ⟨e1, e2, h3⟩ := h3
    have e1 := Nat.eq_of_beq_eq_true e1
    have e2 := Nat.eq_of_beq_eq_true e2
    obtain ⟨m, n, q1, q2, q3⟩ := hp
    have w1 := sEv0 e1 q1
    have w2 := sEv0 e2 q2
    omega
  · cases h3
def gStp (H : gHt) (F : sRun) : sRun := fun d mi cuts S => match S with
  | (κ, G, wd, pc, lv, st, cells, slots) => gDr (gLk H mi pc) κ G fun κ' G' => Bool.rec (motive := fun _ => Option sRt) (F d mi cuts (κ', G', wd, pc, lv, st, cells, slots)) (some ([], cells, slots)) (match gLk H mi pc with
    | [] => false
    | _ :: _ => gAbs κ')
theorem gStp_ok {PT : List sMd} {H : gHt} {F : sRun} (hF : sSnd PT F) : sSnd PT (gStp H F) := by
  intro d mi cuts S r h
  obtain ⟨κ, G, wd, pc, lv, st, cells, slots⟩ := S
  obtain ⟨κ', G', h1, h2⟩ := gDr_ex (k := fun κ' G' => Bool.rec (motive := fun _ => Option sRt) (F d mi cuts (κ', G', wd, pc, lv, st, cells, slots)) (some ([], cells, slots)) (match gLk H mi pc with
    | [] => false
    | _ :: _ => gAbs κ')) (gLk H mi pc) κ G
  have h3 := h1.symm.trans h
  cases e : (match gLk H mi pc with
    | [] => false
    | _ :: _ => gAbs κ') with
  | true =>
    rw [e] at h3
    have h4 : some (([] : List sO), cells, slots) = some r := h3
    cases h4
    refine ⟨Nat.le_refl _, Nat.le_refl _, (fun o ho => by cases ho), ?_⟩
    intro M hM ρ ex g n0 L sc p l e' Rm s m args below meth c Q hFx oc os c1 c2 ws Hh locs ls lc vs hs hG hpt hl hL hS K
    obtain ⟨hs', hG'⟩ := h2 (sAc ws) L sc ρ hs hG
    split at e
    · cases e
    · exact (gAbs_ok hs' e).elim
  | false =>
    rw [e] at h3
    have h3 : F d mi cuts (κ', G', wd, pc, lv, st, cells, slots) = some r := h3
    obtain ⟨g1, g2, g3, g4⟩ := hF d mi cuts _ r h3
    refine ⟨g1, g2, g3, ?_⟩
    intro M hM ρ ex g n0 L sc p l e' Rm s m args below meth c Q hFx oc os c1 c2 ws Hh locs ls lc vs hs hG hpt hl hL hS K
    obtain ⟨hs', hG'⟩ := h2 (sAc ws) L sc ρ hs hG
    exact g4 M hM ρ ex g n0 L sc p l e' Rm s m args below meth c Q hFx oc os c1 c2 ws Hh locs ls lc vs hs' hG' hpt hl hL hS K
noncomputable def sGoH (PT : List sMd) (SM : List sIn) (H : gHt) (n : Nat) : sRun := Nat.rec (fun _ _ _ _ => none) (fun _ R => gStp H (sStep PT (sClS PT SM R) R)) n
theorem sGoH_succ (PT : List sMd) (SM : List sIn) (H : gHt) (n : Nat) : sGoH PT SM H (n + 1) = gStp H (sStep PT (sClS PT SM (sGoH PT SM H n)) (sGoH PT SM H n)) := rfl
theorem sGoH_ok {PT : List sMd} {SM : List sIn} {H : gHt} (hPT : sOkP PT) (hS : ∀ I ∈ SM, sInOk PT I) : ∀ n : Nat, sSnd PT (sGoH PT SM H n)
  | 0 => fun d mi cuts S r h => by cases h
  | n + 1 => by
    rw [sGoH_succ]
    exact gStp_ok (sStep_ok hPT (sGoH_ok hPT hS n) (sClS_ok hPT hS (sGoH_ok hPT hS n)))
end
