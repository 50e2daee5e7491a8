/-! ===== calls done in one step; the words for a throw ===== -/
section SBT
variable {p : Program} {l : Launch} {e : Env} {R : Room} {s : State} {m : MethodId} {args : Array Value} {below : List Frame} {meth : Method} {c : Code} {H : Heap} {locs : List Loc} {cells slots : Nat} {Q : State → Prop}
variable {pc : Nat} {ls : Array Slot} {ρ : Nat → Int32} {ex : Nat → Nat} {env : sE} {g : sG} {n0 d : Nat} {wd : List sC} {ws : va_W} {st st' : List sV} {vs : List Value} {ax : List Nat} {M : sMd} {PT : List sMd}
theorem sAcW : nativeFrameWords "java/lang/System" "arraycopy" 5 + 11 ≤ 120 := by decide +kernel
theorem sOpn {n : Nat} {f g : Nat → Int32} (z : Int32) (hz : z.toInt = (n : Int)) (h : n = 0) (sp dp : Nat) : va_cpy f g sp dp z.toNatClampNeg = g := by
  subst h
  funext j
  have e1 : z.toNatClampNeg = 0 := by show z.toInt.toNat = 0; rw [hz]; rfl
  rw [e1]
  exact pk_cpy_out (by omega)
set_option maxHeartbeats 4000000 in
theorem sBlt_ok (hF : sFix p l R s m args meth c M d ρ ex g n0) (hcs : cells ≤ R.cells ∧ slots ≤ R.slots) (hs : sSat ρ env) (hpt : sPt ρ ex g (fun q => n0 ≤ q) wd ws H s.heap locs) (hsz : ls.size = mL M) (hS : sA2 (sRep ρ (ws.map Prod.fst) ex) st vs)
    {ins : Instr} (hd : decode (mC M) pc = .ok (ins, 3)) (he : sEntC PT (mY M).cls ins ax = true) (h : sBlt env wd ins ax st = some st') (k : sGo p l e R s m args below meth c Q ls ρ ex g n0 ws wd st' cells slots (pc + 3)) : W p l e R s m args below meth c H locs cells slots Q (F0 m pc ls vs) := by
  obtain ⟨hx, hb, hml, hown, hts, hmn, hlk, htb, hfr, hlo, hst, hc, h6, hrt⟩ := hF
  cases ins
  case invokespecial i =>
    simp only [sBlt] at h
    split at h
    · rename_i pL pI pC
      obtain ⟨x, t, hst0, hz⟩ := s1_some h
      subst hst0
      obtain ⟨v, rest, rfl, hxv, hS1⟩ := sA2_cons hS
      split at hz
      · rename_i hk
        cases hz
        obtain ⟨a, rfl⟩ := sRep_ref hxv hk.1
        have hsum := sSum_ok _ _ hS1
        simp only [sEntC, Bool.and_eq_true] at he
        exact W.objInit hx hb hown (hts _ (sAt_ok he.1)) (hts _ (sAt_ok he.2.1)) (hts _ (sAt_ok he.2.2)) (g := F0 m pc ls (.ref a :: rest)) rfl (hsz.trans hml.symm) rfl hd (by omega) (by show 2 * 0 + _ + 12 ≤ _; rw [hsum]; omega) (k ws H locs rest List.prefix_rfl hpt hS1)
      · cases hz
    · cases h
  case invokestatic i =>
    simp only [sBlt] at h
    split at h
    · rename_i pL pS pI pC
      obtain ⟨a, b, r, hst0, hz⟩ := s2_some h
      subst hst0
      obtain ⟨vb, vs1, rfl, h1, hS1⟩ := sA2_cons hS
      obtain ⟨va, rest, rfl, h2, hS2⟩ := sA2_cons hS1
      split at hz
      · rename_i hk
        obtain ⟨y, hy, hye⟩ := Option.map_eq_some_iff.mp hz
        cases hye
        obtain ⟨x1, y1, rfl, rfl, hr⟩ := sF_ok hs h2 h1 hy
        have hsum := sSum_ok _ _ hS2
        simp only [sEntC, Bool.and_eq_true] at he
        exact va_mmin hx hb (hml.trans hsz.symm) hown (hts _ (sAt_ok he.1)) (hts _ (sAt_ok he.2.1)) (hts _ (sAt_ok he.2.2.1)) (hts _ (sAt_ok he.2.2.2)) (by omega) (by rw [hsum]; omega) hcs.1 hcs.2 hd (k ws H locs _ List.prefix_rfl hpt ⟨hr, hS2⟩)
      · cases hz
    · rename_i pL pS pI pC
      obtain ⟨a, b, r, hst0, hz⟩ := s2_some h
      subst hst0
      obtain ⟨vb, vs1, rfl, h1, hS1⟩ := sA2_cons hS
      obtain ⟨va, rest, rfl, h2, hS2⟩ := sA2_cons hS1
      split at hz
      · rename_i hk
        obtain ⟨y, hy, hye⟩ := Option.map_eq_some_iff.mp hz
        cases hye
        obtain ⟨x1, y1, rfl, rfl, hr⟩ := sF_ok hs h2 h1 hy
        have hsum := sSum_ok _ _ hS2
        simp only [sEntC, Bool.and_eq_true] at he
        exact va_mmax hx hb (hml.trans hsz.symm) hown (hts _ (sAt_ok he.1)) (hts _ (sAt_ok he.2.1)) (hts _ (sAt_ok he.2.2.1)) (hts _ (sAt_ok he.2.2.2)) (by omega) (by rw [hsum]; omega) hcs.1 hcs.2 hd (k ws H locs _ List.prefix_rfl hpt ⟨hr, hS2⟩)
      · cases hz
    · rename_i pL pN pS pI
      split at h
      · rename_i z dp r1 sp r0 t
        split at h
        · rename_i na ov0 nb ov1 z' dp' sp' hr0 hr1 hz hdp hsp
          split at h
          · rename_i hk
            cases h
            obtain ⟨k1, k2, k3, k4, k5, k6, k7, k8, k9⟩ := hk
            obtain ⟨vz, vs1, rfl, a1, hS1⟩ := sA2_cons hS
            obtain ⟨vdp, vs2, rfl, a2, hS2⟩ := sA2_cons hS1
            obtain ⟨v1, vs3, rfl, a3, hS3⟩ := sA2_cons hS2
            obtain ⟨vsp, vs4, rfl, a4, hS4⟩ := sA2_cons hS3
            obtain ⟨v0, rest, rfl, a5, hS5⟩ := sA2_cons hS4
            have b1 := sN_ok hs a1
            have b2 := sN_ok hs a2
            have b4 := sN_ok hs a4
            rw [hz] at b1
            rw [hdp] at b2
            rw [hsp] at b4
            simp only [sRep] at b1 b2 b4
            subst b1; subst b2; subst b4
            obtain ⟨ad0, e0, hw0, hc0⟩ := sRow_ok hpt.1 hr0
            obtain ⟨ad1, e1, hw1, hc1⟩ := sRow_ok hpt.1 hr1
            obtain ⟨f, rfl, hf⟩ := sInv0 hc0
            obtain ⟨ff, rfl, hff⟩ := sInv0 hc1
            have q3 := sRef a3 hw1
            have q5 := sRef a5 hw0
            subst q3; subst q5
            have iz : (Int32.ofInt z').toInt = z' := Int32.toInt_ofInt_of_le (by omega) (by omega)
            have id : (Int32.ofInt dp').toInt = dp' := Int32.toInt_ofInt_of_le (by omega) (by omega)
            have is : (Int32.ofInt sp').toInt = sp' := Int32.toInt_ofInt_of_le (by omega) (by omega)
            have nz : ∀ x : Int32, 0 ≤ x.toInt → ¬ x < 0 := fun x hx0 q => by
              have := Int32.lt_iff_toInt_lt.mp q
              have h0 : (0 : Int32).toInt = 0 := rfl
              omega
            have cz : (Int32.ofInt z').toNatClampNeg = z'.toNat := by show (Int32.ofInt z').toInt.toNat = _; rw [iz]
            have cd : (Int32.ofInt dp').toNatClampNeg = dp'.toNat := by show (Int32.ofInt dp').toInt.toNat = _; rw [id]
            have cs : (Int32.ofInt sp').toNatClampNeg = sp'.toNat := by show (Int32.ofInt sp').toInt.toNat = _; rw [is]
            have hsum := sSum_ok _ _ hS5
            have hac := sAcW
            simp only [sEntC, Bool.and_eq_true] at he
            refine va_copyi hx hb (hml.trans hsz.symm) hown (hts _ (sAt_ok he.1)) (hts _ (sAt_ok he.2.1)) (hts _ (sAt_ok he.2.2.1)) (hts _ (sAt_ok he.2.2.2)) hc.1 hpt.2.1 hpt.2.2.1 hpt.2.2.2 r0.toNat r1.toNat 0 0 hw0 hw1 rfl rfl rfl (nz _ (by omega)) (nz _ (by omega)) (nz _ (by omega)) (by rw [cz, cs]; omega) (by rw [cz, cd]; omega) (fun _ _ => rfl) (by omega) (by rw [hsum]; omega) hd (fun H1 locs1 q1 q2 q3 => k _ H1 locs1 rest (by rw [sMapSet hw1]; exact List.prefix_rfl) ⟨?_, q1, q2, q3⟩ (by rw [sMapSet hw1]; exact hS5))
            have hself : wd = wd.set r1.toNat (.inr (0, nb, ov1)) := by
              have hg : wd[r1.toNat]? = some (.inr (0, nb, ov1)) := by
                unfold sRow at hr1
                split at hr1
                · rename_i t' n' ov' hq
                  split at hr1
                  · rename_i ht
                    cases hr1
                    rw [hq, ht]
                  · cases hr1
                · cases hr1
              obtain ⟨hl0, hge⟩ := List.getElem?_eq_some_iff.mp hg
              rw [← hge, List.set_getElem_self]
            rw [hself]
            refine sRW_set hpt.1 hw1 ⟨rfl, rfl, fun j hj => ?_⟩
            rcases k9 with k9 | ⟨rfl, rfl⟩
            · rw [sOpn (n := 0) _ (by rw [iz]; exact k9) rfl]
              exact hff j hj
            · rw [cz, cs, cd]
              by_cases hin : dp'.toNat ≤ j ∧ j < dp'.toNat + z'.toNat
              · rw [pk_cpy_in hin.1 hin.2]
                exact hf _ (by omega)
              · rw [pk_cpy_out (by omega)]
                exact hff j hj
          · cases h
        · cases h
      · cases h
    · cases h
  all_goals exact absurd h (by simp [sBlt])
end SBT
