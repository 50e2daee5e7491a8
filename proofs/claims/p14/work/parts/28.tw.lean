noncomputable section
/-! ===== calls done in one step ===== -/
theorem gA7_map {A A' : Nat → Nat → Int32} {kr wr pr plr ok ow kr' wr' pr' plr' ok' ow' : Nat} {n n' s h b c p k k' po po' : Int} (d : Nat) (hA : gA7 A [kr, wr, pr, plr, ok, ow] [n, s, h, b, c, p, k, po]) (h0 : 0 ≤ n') (h1 : n' ≤ 40) (h2 : 0 ≤ po') (hn : n = n' + (d : Int))
    (hk : ∀ i : Nat, (i : Int) < n' → A' kr' (ok' + i) = A kr (ok + (i + d))) (hw : ∀ i : Nat, (i : Int) < n' → A' wr' (ow' + i) = A wr (ow + (i + d)))
    (hF : ∀ i t : Nat, (i : Int) ≤ n' → t < 5 → gFl (A' pr') n' k' [s, h, b, c, p] i t = gFl (A pr) n k [s, h, b, c, p] (i + d) t)
    (hP : ∀ i j : Nat, (i : Int) ≤ n' → j < 12 → gPl (A' pr') (A' plr') n' k' po' i j = gPl (A pr) (A plr) n k po (i + d) j) : gA7 A' [kr', wr', pr', plr', ok', ow'] [n', s, h, b, c, p, k', po'] := by
  obtain ⟨g1, g2, g3, g4⟩ := hA
  refine ⟨h0, h1, h2, fun i hi => ?_⟩
  have hi4 := g4 (i + d) (by omega)
  have e : i + d + 1 = i + 1 + d := by omega
  unfold gAc at hi4 ⊢
  rw [e] at hi4
  rw [hk i hi, hw i hi, hF i 0 (by omega) (by decide), hF i 1 (by omega) (by decide), hF i 2 (by omega) (by decide), hF i 3 (by omega) (by decide), hF i 4 (by omega) (by decide), hF (i + 1) 0 (by omega) (by decide), hF (i + 1) 1 (by omega) (by decide), hF (i + 1) 2 (by omega) (by decide), hF (i + 1) 3 (by omega) (by decide), hF (i + 1) 4 (by omega) (by decide)]
  obtain ⟨a1, a2, a3, a4, a5, a6⟩ := hi4
  exact ⟨a1, a2, a3, a4, fun j hj => by rw [hP i j (by omega) (by omega), hP (i + 1) j (by omega) (by omega)]; exact a5 j hj, a6⟩
theorem sHle_ok {ρ : List Int} {κ : sCx} (hs : sCok ρ κ) {v : sV} {m c : Int} (hv : sEv ρ v = some m) (h : sHle κ.2.1 v c = true) : m ≤ c := by
  unfold sHle at h
  split at h
  · rename_i z hz
    have h1 := sHi_ok hs.1 hv hz
    have h2 := of_decide_eq_true h
    omega
  · cases h
theorem sCpy0 {f g : Nat → Int32} {z j : Nat} (h : j < z) : va_cpy f g (0 : Int).toNat (0 : Int).toNat z j = f j := by
  rw [pk_cpy_in (by show 0 ≤ j; omega) (by show j < 0 + z; omega)]
  congr 1
  show 0 + (j - 0) = j
  omega
theorem sCpy1 {f g : Nat → Int32} {z j : Nat} (h : j < z) : va_cpy f g (1 : Int).toNat (0 : Int).toNat z j = f (j + 1) := by
  rw [pk_cpy_in (by show 0 ≤ j; omega) (by show j < 0 + z; omega)]
  congr 1
  show 1 + (j - 0) = j + 1
  omega
theorem sCpA_ok {A A' : Nat → Nat → Int32} {L : Nat} {sc : Nat → Int32} {ρ : List Int} {κ : sCx} {a b z : Nat} (hs : sCok ρ κ) (hA : A' b = va_cpy (A a) (A b) (0 : Int).toNat (0 : Int).toNat z) (hO : ∀ k, k ≠ b → A' k = A k) {f g : sFc} (hw : sWf A L sc ρ f) (h : g ∈ sCpA κ a b (z : Int) f) : sWf A' L sc ρ g := by
  unfold sCpA at h
  split at h
  · rename_i m r id o
    split at h
    · rename_i hc
      rw [List.mem_singleton] at h
      subst h
      rw [Bool.and_eq_true] at hc
      have e := Nat.eq_of_beq_eq_true hc.1
      subst e
      obtain ⟨zm, e1, p1, p2⟩ := hw
      have h1 := sHle_ok hs e1 hc.2
      exact ⟨zm, e1, p1, fun i hi => by rw [hA, sCpy0 (by omega)]; exact p2 i hi⟩
    · cases h
  · rename_i v m x r f0
    split at h
    · rename_i hc
      rw [List.mem_singleton] at h
      subst h
      rw [Bool.and_eq_true] at hc
      have e := Nat.eq_of_beq_eq_true hc.1
      subst e
      obtain ⟨zs, g1, g2⟩ := hw
      obtain ⟨z1, z2, z3, rfl, e1, e2, e3⟩ := sA2_c3 g1
      have h1 := sHle_ok hs e2 hc.2
      exact ⟨_, g1, fun i hi => by rw [hA, sCpy0 (by omega)]; exact g2 i hi⟩
    · cases h
  · rename_i n s hh b' c p k po kr wr pr plr ok ow
    split at h
    · rename_i hc
      simp only [Bool.and_eq_true, decide_eq_true_eq] at hc
      obtain ⟨c1, c2, c3, c4, c5, c6, c7⟩ := hc
      have hz : z = 40 := by omega
      subst hz
      have c2 := Nat.eq_of_beq_eq_true c2
      have c3 := Nat.eq_of_beq_eq_true c3
      subst c2; subst c3
      have d1 := sNb c4
      have d2 := sNb c5
      have d3 := sNb c6
      have d4 := sNb c7
      obtain ⟨zs, g1, g2⟩ := hw
      obtain ⟨zn, zs', zh, zb, zc, zp, zk, zo, rfl, e1, e2, e3, e4, e5, e6, e7, e8⟩ := sA2_c8 g1
      have hb := g2
      obtain ⟨b1, b2, b3, -⟩ := hb
      split at h
      · rename_i ek
        have ek := Nat.eq_of_beq_eq_true ek
        subst ek
        rw [List.mem_singleton] at h
        subst h
        exact ⟨_, g1, gA7_map 0 g2 b1 b2 b3 (by omega) (fun i hi => by rw [hA, sCpy0 (by omega)]; rfl) (fun i hi => by rw [hO _ d2]; rfl) (fun i t hi ht => by rw [hO _ d3]; rfl) (fun i t hi ht => by rw [hO _ d3, hO _ d4]; rfl)⟩
      · split at h
        · rename_i ek
          have ek := Nat.eq_of_beq_eq_true ek
          subst ek
          rw [List.mem_singleton] at h
          subst h
          exact ⟨_, g1, gA7_map 0 g2 b1 b2 b3 (by omega) (fun i hi => by rw [hO _ d1]; rfl) (fun i hi => by rw [hA, sCpy0 (by omega)]; rfl) (fun i t hi ht => by rw [hO _ d3]; rfl) (fun i t hi ht => by rw [hO _ d3, hO _ d4]; rfl)⟩
        · cases h
    · cases h
  · cases h
theorem sCpB_ok {A A' : Nat → Nat → Int32} {L : Nat} {sc : Nat → Int32} {ρ : List Int} {κ : sCx} {a : Nat} (hs : sCok ρ κ) (hA : A' a = va_cpy (A a) (A a) (1 : Int).toNat (0 : Int).toNat 39) (hO : ∀ k, k ≠ a → A' k = A k) {f g : sFc} (hw : sWf A L sc ρ f) (h : g ∈ sCpB κ a f) : sWf A' L sc ρ g := by
  unfold sCpB at h
  split at h
  · rename_i n s hh b' c p k po kr wr pr plr ok ow
    split at h
    · rename_i hd
      obtain ⟨d1, d2, d3, d4, d5, d6⟩ := sD4_ok hd
      obtain ⟨zs, g1, g2⟩ := hw
      obtain ⟨zn, zs', zh, zb, zc, zp, zk, zo, rfl, e1, e2, e3, e4, e5, e6, e7, e8⟩ := sA2_c8 g1
      have hb := g2
      obtain ⟨b1, b2, b3, -⟩ := hb
      split at h
      · rename_i ek
        have ek := Nat.eq_of_beq_eq_true ek
        subst ek
        split at h
        · rename_i hc
          rw [List.mem_singleton] at h
          subst h
          rw [Bool.and_eq_true] at hc
          have e := Nat.eq_of_beq_eq_true hc.1
          subst e
          have h1 := sHle_ok hs e1 hc.2
          exact ⟨_, g1, gA7_map 0 g2 b1 b2 b3 (by omega) (fun i hi => by rw [hA, Nat.zero_add, sCpy1 (by omega)]; congr 1; omega) (fun i hi => by rw [hO _ (Ne.symm d1)]; rfl) (fun i t hi ht => by rw [hO _ (Ne.symm d2)]; rfl) (fun i t hi ht => by rw [hO _ (Ne.symm d2), hO _ (Ne.symm d3)]; rfl)⟩
        · split at h
          · rename_i hc
            rw [List.mem_singleton] at h
            subst h
            simp only [Bool.and_eq_true] at hc
            have e := Nat.eq_of_beq_eq_true hc.1
            subst e
            have n1 := sN_ev hs.1 e1
            have n7 := sN_ev hs.1 e7
            rw [sVe_eq hc.2.1] at n1
            rw [sVe_eq hc.2.2] at n7
            have n1 : 40 = zn := Option.some.inj n1
            have n7 : 697 = zk := Option.some.inj n7
            subst n1; subst n7
            refine ⟨[39, zs', zh, zb, zc, zp, 17, zo], ⟨rfl, e2, e3, e4, e5, e6, rfl, e8, trivial⟩, gA7_map 1 g2 (by decide) (by decide) b3 (by decide) (fun i hi => by rw [hA, Nat.zero_add, Nat.zero_add, sCpy1 (by omega)]) (fun i hi => by rw [hO _ (Ne.symm d1)]; congr 1; omega) (fun i t hi ht => ?_) (fun i t hi ht => ?_)⟩
            · unfold gFl
              by_cases q : (i : Int) < 39
              · rw [if_pos q, if_pos (by omega), hO _ (Ne.symm d2)]
                have hix : gLo 17 (17 * (i + 1) + t) = gLo 697 (17 * (i + 1 + 1) + t) := by
                  unfold gLo
                  rw [if_neg (by omega), if_pos (by omega)]
                  omega
                rw [hix]
              · rw [if_neg q, if_neg (by omega)]
            · unfold gPl
              by_cases q : (i : Int) < 39
              · rw [if_pos q, if_pos (by omega), hO _ (Ne.symm d2)]
                have hix : gLo 17 (17 * (i + 1) + 5 + t) = gLo 697 (17 * (i + 1 + 1) + 5 + t) := by
                  unfold gLo
                  rw [if_neg (by omega), if_pos (by omega)]
                  omega
                rw [hix]
              · rw [if_neg q, if_neg (by omega), hO _ (Ne.symm d3)]
          · cases h
      · split at h
        · rename_i ek
          have ek := Nat.eq_of_beq_eq_true ek
          subst ek
          split at h
          · rename_i hc
            rw [List.mem_singleton] at h
            subst h
            rw [Bool.and_eq_true] at hc
            have e := Nat.eq_of_beq_eq_true hc.1
            subst e
            have h1 := sHle_ok hs e1 hc.2
            exact ⟨_, g1, gA7_map 0 g2 b1 b2 b3 (by omega) (fun i hi => by rw [hO _ d1]; rfl) (fun i hi => by rw [hA, Nat.zero_add, sCpy1 (by omega)]; congr 1; omega) (fun i t hi ht => by rw [hO _ (Ne.symm d4)]; rfl) (fun i t hi ht => by rw [hO _ (Ne.symm d4), hO _ (Ne.symm d5)]; rfl)⟩
          · cases h
        · cases h
    · cases h
  · cases h
theorem sCpF_ok {A A' : Nat → Nat → Int32} {L : Nat} {sc : Nat → Int32} {ρ : List Int} {κ : sCx} {a b z : Nat} {sp dp : Int} (hs : sCok ρ κ) (hA : A' b = va_cpy (A a) (A b) sp.toNat dp.toNat z) (hO : ∀ k, k ≠ b → A' k = A k) {f g : sFc} (hw : sWf A L sc ρ f) (h : g ∈ sCpF κ a b (z : Int) sp dp f) : sWf A' L sc ρ g := by
  unfold sCpF at h
  split at h
  · rename_i hc
    simp only [Bool.and_eq_true, decide_eq_true_eq] at hc
    obtain ⟨-, rfl, rfl⟩ := hc
    exact sCpA_ok hs hA hO hw h
  · split at h
    · rename_i hc
      simp only [Bool.and_eq_true, decide_eq_true_eq] at hc
      obtain ⟨c1, c2, rfl, rfl⟩ := hc
      have e := Nat.eq_of_beq_eq_true c1
      subst e
      have hz : z = 39 := by omega
      subst hz
      exact sCpB_ok hs hA hO hw h
    · cases h
theorem sCpG_ok {A A' : Nat → Nat → Int32} {L : Nat} {sc : Nat → Int32} {ρ : List Int} {κ : sCx} {G : List sFc} {a b z : Nat} {zo : Option Int} {sp dp : Int} (hs : sCok ρ κ) (hG : ∀ f ∈ G, sWf A L sc ρ f) (hz : ∀ y, zo = some y → y = (z : Int)) (hA : A' b = va_cpy (A a) (A b) sp.toNat dp.toNat z) (hO : ∀ k, k ≠ b → A' k = A k) : ∀ f ∈ sCpG κ G a b zo sp dp, sWf A' L sc ρ f := by
  intro f hf
  unfold sCpG at hf
  rcases List.mem_append.mp hf with hq | hf
  · split at hq
    · rename_i zz
      have e := hz zz rfl
      subst e
      obtain ⟨g, hg, h1⟩ := List.mem_flatMap.mp hq
      exact sCpF_ok hs hA hO (hG g hg) h1
    · cases hq
  rcases List.mem_append.mp hf with hq | hq
  · clear hf
    split at hq
    · rename_i p hp
      have ek := sPk1_ok hp
      split at hq
      · rename_i hc
        obtain ⟨rfl, hz0, rfl, rfl⟩ := hc
        have hz1 := hz 39 hz0
        have hz2 : z = 39 := by omega
        subst hz2
        split at hq
        · rename_i hh
          rw [List.mem_singleton] at hq
          subst hq
          have h1 := hG _ (sHas_mem hh)
          have hw : A' (sWc p) = A (sWc p) := hO _ (by rw [← ek]; exact (sKW p p).symm)
          rw [← ek] at hA
          refine ⟨fun j hj => ?_, ?_⟩
          · rw [hA, hw, pk_cpy_in (by omega) (by show j < (0 : Int).toNat + 39; omega)]
            have := h1 (j + 1) (by omega)
            have e : (1 : Int).toNat + (j - (0 : Int).toNat) = j + 1 := by show 1 + (j - 0) = j + 1; omega
            rw [e]
            exact this
          · rw [hA, hw, pk_cpy_out (by show (39 : Nat) < (0 : Int).toNat ∨ (0 : Int).toNat + 39 ≤ 39; exact Or.inr (Nat.le_refl 39))]
            exact h1 39 (by omega)
        · cases hq
      · split at hq
        · rename_i hc
          obtain ⟨hz0, rfl, rfl⟩ := hc
          have hz1 := hz 40 hz0
          have hz2 : z = 40 := by omega
          subst hz2
          split at hq
          · rename_i q hq0
            split at hq
            · rename_i hh
              rw [List.mem_singleton] at hq
              subst hq
              have h1 := hG _ (sHas_mem hh.2)
              have eq0 := sPk1_ok hq0
              have hpq : sKc q ≠ b := by
                rw [← ek]
                intro e
                apply hh.1
                unfold sPk1 at hp hq0
                rw [← ek, ← e] at hp
                rw [← eq0] at hq0
                exact Option.some.inj (hp.symm.trans hq0)
              have hkq : A' (sKc q) = A (sKc q) := hO _ hpq
              have hwq : A' (sWc q) = A (sWc q) := hO _ (by rw [← ek]; exact (sKW p q).symm)
              refine ⟨fun j hj => ?_, fun j hj => ?_⟩
              · rw [ek, hA, hkq, eq0, pk_cpy_in (by omega) (by show j < (0 : Int).toNat + 40; omega)]
                congr 1
                show 0 + (j - 0) = j
                omega
              · rw [hkq, hwq]
                exact h1 j hj
            · cases hq
          · cases hq
        · cases hq
    · split at hq
      · rename_i p hp
        have ek := sPw1_ok hp
        split at hq
        · rename_i hc
          obtain ⟨rfl, hz0, rfl, rfl⟩ := hc
          have hz1 := hz 39 hz0
          have hz2 : z = 39 := by omega
          subst hz2
          split at hq
          · rename_i hh
            rw [List.mem_singleton] at hq
            subst hq
            obtain ⟨h1, h2⟩ := hG _ (sHas_mem hh)
            have hk : A' (sKc p) = A (sKc p) := hO _ (by rw [← ek]; exact sKW p p)
            rw [← ek] at hA
            intro j hj
            rw [hA, hk]
            by_cases e : j < 39
            · rw [pk_cpy_in (by omega) (by show j < (0 : Int).toNat + 39; omega)]
              have e1 : (1 : Int).toNat + (j - (0 : Int).toNat) = j + 1 := by show 1 + (j - 0) = j + 1; omega
              rw [e1]
              exact h1 j e
            · rw [pk_cpy_out (by show j < (0 : Int).toNat ∨ (0 : Int).toNat + 39 ≤ j; right; show 0 + 39 ≤ j; omega)]
              have e1 : j = 39 := by omega
              subst e1
              exact h2
          · cases hq
        · split at hq
          · rename_i hc
            obtain ⟨hz0, rfl, rfl⟩ := hc
            have hz1 := hz 40 hz0
            have hz2 : z = 40 := by omega
            subst hz2
            split at hq
            · rename_i q hq0
              split at hq
              · rename_i hh
                rw [List.mem_singleton] at hq
                subst hq
                obtain ⟨h1, h2⟩ := hG _ (sHas_mem hh.2)
                have eq0 := sPw1_ok hq0
                have hkp : A' (sKc p) = A (sKc p) := hO _ (by rw [← ek]; exact sKW p p)
                intro j hj
                rw [hkp, ek, hA, pk_cpy_in (by omega) (by show j < (0 : Int).toNat + 40; omega), h1 j hj, ← eq0]
                have e1 : (0 : Int).toNat + (j - (0 : Int).toNat) = j := by show 0 + (j - 0) = j; omega
                rw [e1]
                exact h2 j hj
              · cases hq
            · cases hq
          · cases hq
      · cases hq
  · exact sKeep_ok hG hO f hq
section SBT
variable {p : Program} {l : Launch} {e : Env} {R : Room} {s : State} {m : MethodId} {args : Array Value} {below : List Frame} {meth : Method} {c : Code} {H : Heap} {locs : List Loc} {cells slots : Nat} {Q : State → Prop}
variable {pc : Nat} {ls : Array Slot} {ρ : List Int} {ex : Nat → Nat} {κ : sCx} {G : List sFc} {g : sG} {n0 L d : Nat} {sc : Nat → Int32} {wd : List sC} {ws : va_W} {st : List sV} {os : List sH4} {vs : List Value} {ax : List Nat} {M : sMd} {PT : List sMd}
theorem sAcW : nativeFrameWords "java/lang/System" "arraycopy" 5 + 11 ≤ 120 := by decide +kernel
theorem sNz0 {x : Int32} (hx0 : 0 ≤ x.toInt) : ¬ x < 0 := fun q => by
  have := Int32.lt_iff_toInt_lt.mp q
  have h0 : (0 : Int32).toInt = 0 := rfl
  omega
set_option maxHeartbeats 4000000 in
theorem sCpy_ok {z dp sp : sV} {r0 r1 : Int} {t : List sV} {i : Nat} {pL pN pS pI : Nat} (hF : sFix p l R s m args meth c M d ex g n0 L sc) (hs : sCok ρ κ) (hG : ∀ f ∈ G, sWf (sAc ws) L sc ρ f) (hpt : sPt ρ ex g (fun q => n0 ≤ q) wd ws H s.heap locs) (hsz : ls.size = mL M) (hS : sA2 (sRep ρ (ws.map Prod.fst) ex) (z :: dp :: (3, r1) :: sp :: (3, r0) :: t) vs)
    (hd : decode (mC M) pc = .ok (.invokestatic i, 3)) (he : sEntC PT (mY M).cls (.invokestatic i) [2, pL, pN, pS, pI] = true) (h : sCpy κ G wd z dp r1 sp r0 t = some os) (k : sGo p l e R s m args below meth c Q ls ρ ex g n0 L sc ws os cells slots (pc + 3)) : W p l e R s m args below meth c H locs cells slots Q (F0 m pc ls vs) := by
  obtain ⟨hx, hb, hml, hown, hts, hmn, hlk, htb, hfr, hlo, hst, hc, hrt⟩ := hF
  unfold sCpy at h
  split at h
  · rename_i na i0 zz0 nb i1 zz1 z0 z1 dp' sp' hr0 hr1 hz hdp hsp
    split at h
    · rename_i a0 b0 a1 b1 hS0 hS1
      split at h
      · rename_i hk
        cases h
        obtain ⟨k1, k0, k2, k3, k4, k5, k6, k7, k8, k9, k10⟩ := hk
        obtain ⟨vz, vs1, rfl, y1, hS1'⟩ := sA2_cons hS
        obtain ⟨vdp, vs2, rfl, y2, hS2⟩ := sA2_cons hS1'
        obtain ⟨v1, vs3, rfl, y3, hS3⟩ := sA2_cons hS2
        obtain ⟨vsp, vs4, rfl, y4, hS4⟩ := sA2_cons hS3
        obtain ⟨v0, rest, rfl, y5, hS5⟩ := sA2_cons hS4
        have x2 := sN_ok hs.1 y2
        have x4 := sN_ok hs.1 y4
        rw [hdp] at x2
        rw [hsp] at x4
        simp only [sRep] at x2 x4
        subst x2; subst x4
        obtain ⟨zi, rfl, hzi⟩ := sRep_int y1 k0
        obtain ⟨w1, w2, w3⟩ := sRg_ev hs.1 hzi hz
        obtain ⟨ad0, e0, hw0, -, hc0⟩ := sRW_get hpt.1 hr0
        obtain ⟨ad1, e1, hw1, -, hc1⟩ := sRW_get hpt.1 hr1
        obtain ⟨f, S0, rfl, hs0, hf⟩ := sInv4 hc0
        obtain ⟨ff, S1, rfl, hs1, hff⟩ := sInv4 hc1
        cases Option.some.inj (hs0.symm.trans hS0)
        cases Option.some.inj (hs1.symm.trans hS1)
        have q3 := sRef y3 hw1
        have q5 := sRef y5 hw0
        subst q3; subst q5
        have iz : (Int32.ofInt zi).toInt = zi := sI_toInt w3
        have id : (Int32.ofInt dp').toInt = dp' := Int32.toInt_ofInt_of_le (by omega) (by omega)
        have is : (Int32.ofInt sp').toInt = sp' := Int32.toInt_ofInt_of_le (by omega) (by omega)
        have cz : (Int32.ofInt zi).toNatClampNeg = zi.toNat := by show (Int32.ofInt zi).toInt.toNat = _; rw [iz]
        have cd : (Int32.ofInt dp').toNatClampNeg = dp'.toNat := by show (Int32.ofInt dp').toInt.toNat = _; rw [id]
        have cs : (Int32.ofInt sp').toNatClampNeg = sp'.toNat := by show (Int32.ofInt sp').toInt.toNat = _; rw [is]
        have hsum := sSum_ok _ _ hS5
        have hac := sAcW
        simp only [sEntC, Bool.and_eq_true] at he
        have hA0 : sAc ws r0.toNat = f := sAc_at hw0
        have hA1 : sAc ws r1.toNat = ff := sAc_at hw1
        refine va_copyi hx hb (hml.trans hsz.symm) hown (hts _ (sAt_ok he.1)) (hts _ (sAt_ok he.2.1)) (hts _ (sAt_ok he.2.2.1)) (hts _ (sAt_ok he.2.2.2)) hc.1 hpt.2.1 hpt.2.2.1 hpt.2.2.2 r0.toNat r1.toNat 0 0 hw0 hw1 rfl rfl rfl (sNz0 (by omega)) (sNz0 (by omega)) (sNz0 (by omega)) (by rw [cz, cs]; omega) (by rw [cz, cd]; omega) (fun _ _ => rfl) (by omega) (by rw [hsum]; omega) hd (fun H1 locs1 q1 q2 q3 => k _ List.mem_cons_self ρ _ H1 locs1 rest List.prefix_rfl (by rw [sMapSet hw1]; exact List.prefix_rfl) hs (sCpG_ok (z := zi.toNat) hs hG (fun y hy => ?_) (by rw [sAc_set hw1, hA0, hA1, cz, cd, cs]) (fun b hb0 => sAc_other hb0)) ⟨?_, q1, q2, q3⟩ (by rw [sMapSet hw1]; exact hS5))
        · split at hy
          · cases hy
            omega
          · cases hy
        · have hself : wd = wd.set r1.toNat (.inr (4, nb, [(i1, zz1)])) := by
            obtain ⟨hl0, hge⟩ := List.getElem?_eq_some_iff.mp hr1
            rw [← hge, List.set_getElem_self]
          rw [hself]
          refine sRW_set hpt.1 hw1 ⟨rfl, rfl, [(a1, b1)], hS1, fun j hj => ?_⟩
          rw [cz, cs, cd]
          have m1 : ∀ q : Nat, q % ([(a1, b1)] : List (Int × Int)).length = 0 := fun q => Nat.mod_one q
          have m0 : ∀ q : Nat, q % ([(a0, b0)] : List (Int × Int)).length = 0 := fun q => Nat.mod_one q
          by_cases hin : dp'.toNat ≤ j ∧ j < dp'.toNat + zi.toNat
          · rw [pk_cpy_in hin.1 hin.2]
            obtain ⟨lo, hi, p1, p2, p3⟩ := hf (sp'.toNat + (j - dp'.toNat)) (by omega)
            rw [m0] at p1
            simp at p1
            exact ⟨a1, b1, by rw [m1]; rfl, by omega, by omega⟩
          · rw [pk_cpy_out (by omega)]
            exact hff j hj
      · cases h
    · cases h
  · cases h
set_option maxHeartbeats 4000000 in
theorem sBlt_ok (hF : sFix p l R s m args meth c M d ex g n0 L sc) (hcs : cells ≤ R.cells ∧ slots ≤ R.slots) (hs : sCok ρ κ) (hG : ∀ f ∈ G, sWf (sAc ws) L sc ρ f) (hpt : sPt ρ ex g (fun q => n0 ≤ q) wd ws H s.heap locs) (hsz : ls.size = mL M) (hS : sA2 (sRep ρ (ws.map Prod.fst) ex) st vs)
    {ins : Instr} (hd : decode (mC M) pc = .ok (ins, 3)) (he : sEntC PT (mY M).cls ins ax = true) (h : sBlt κ G wd ins ax st = some os) (k : sGo p l e R s m args below meth c Q ls ρ ex g n0 L sc ws os cells slots (pc + 3)) : W p l e R s m args below meth c H locs cells slots Q (F0 m pc ls vs) := by
  have hF0 := hF
  obtain ⟨hx, hb, hml, hown, hts, hmn, hlk, htb, hfr, hlo, hst, hc, hrt⟩ := hF
  cases ins
  case invokespecial i =>
    simp only [sBlt] at h
    split at h
    · rename_i pL pI pC
      obtain ⟨x, t, hst0, hz⟩ := s1_some h
      subst hst0
      obtain ⟨v, rest, rfl, hxv, hS1⟩ := sA2_cons hS
      split at hz
      · rename_i hk
        cases hz
        obtain ⟨a, rfl⟩ := sRep_ref hxv hk.1
        have hsum := sSum_ok _ _ hS1
        simp only [sEntC, Bool.and_eq_true] at he
        exact W.objInit hx hb hown (hts _ (sAt_ok he.1)) (hts _ (sAt_ok he.2.1)) (hts _ (sAt_ok he.2.2)) (g := F0 m pc ls (.ref a :: rest)) rfl (hsz.trans hml.symm) rfl hd (by omega) (by show 2 * 0 + _ + 12 ≤ _; rw [hsum]; omega) (k _ List.mem_cons_self ρ ws H locs rest List.prefix_rfl List.prefix_rfl hs hG hpt hS1)
      · cases hz
    · cases h
  case invokestatic i =>
    simp only [sBlt] at h
    split at h
    · rename_i pL pS pI pC
      obtain ⟨a, b, r, hst0, hz⟩ := s2_some h
      subst hst0
      obtain ⟨vb, vs1, rfl, h1, hS1⟩ := sA2_cons hS
      obtain ⟨va, rest, rfl, h2, hS2⟩ := sA2_cons hS1
      split at hz
      · rename_i hk
        split at hz
        · rename_i κ' y hy
          cases hz
          obtain ⟨u, rfl, hu⟩ := sRep_int h2 hk.2.1
          obtain ⟨w, rfl, hw⟩ := sRep_int h1 hk.2.2
          obtain ⟨ρ', r1, r2, r3, z, r4, r5⟩ := sMmx_ok true hs ((sN_k _ _).trans hk.2.1) ((sN_k _ _).trans hk.2.2) (sN_ev hs.1 hu) (sN_ev hs.1 hw) hy
          have hsum := sSum_ok _ _ hS2
          simp only [sEntC, Bool.and_eq_true] at he
          refine va_mmin hx hb (hml.trans hsz.symm) hown (hts _ (sAt_ok he.1)) (hts _ (sAt_ok he.2.1)) (hts _ (sAt_ok he.2.2.1)) (hts _ (sAt_ok he.2.2.2)) (by omega) (by rw [hsum]; omega) hcs.1 hcs.2 hd (k _ List.mem_cons_self ρ' ws H locs _ r1 List.prefix_rfl r2 (fun f hf => sWf_mono r1 (hG f hf)) ⟨sRW_more r1 hpt.1, hpt.2⟩ ⟨?_, sStM r1 List.prefix_rfl hS2⟩)
          have q := sRep_of_int (ads := ws.map Prod.fst) (ex := ex) r3 r4
          rw [r5] at q
          exact q
        · cases hz
      · cases hz
    · rename_i pL pS pI pC
      obtain ⟨a, b, r, hst0, hz⟩ := s2_some h
      subst hst0
      obtain ⟨vb, vs1, rfl, h1, hS1⟩ := sA2_cons hS
      obtain ⟨va, rest, rfl, h2, hS2⟩ := sA2_cons hS1
      split at hz
      · rename_i hk
        split at hz
        · rename_i κ' y hy
          cases hz
          obtain ⟨u, rfl, hu⟩ := sRep_int h2 hk.2.1
          obtain ⟨w, rfl, hw⟩ := sRep_int h1 hk.2.2
          obtain ⟨ρ', r1, r2, r3, z, r4, r5⟩ := sMmx_ok false hs ((sN_k _ _).trans hk.2.1) ((sN_k _ _).trans hk.2.2) (sN_ev hs.1 hu) (sN_ev hs.1 hw) hy
          have hsum := sSum_ok _ _ hS2
          simp only [sEntC, Bool.and_eq_true] at he
          refine va_mmax hx hb (hml.trans hsz.symm) hown (hts _ (sAt_ok he.1)) (hts _ (sAt_ok he.2.1)) (hts _ (sAt_ok he.2.2.1)) (hts _ (sAt_ok he.2.2.2)) (by omega) (by rw [hsum]; omega) hcs.1 hcs.2 hd (k _ List.mem_cons_self ρ' ws H locs _ r1 List.prefix_rfl r2 (fun f hf => sWf_mono r1 (hG f hf)) ⟨sRW_more r1 hpt.1, hpt.2⟩ ⟨?_, sStM r1 List.prefix_rfl hS2⟩)
          have q := sRep_of_int (ads := ws.map Prod.fst) (ex := ex) r3 r4
          rw [r5] at q
          exact q
        · cases hz
      · cases hz
    · rename_i pL pN pS pI
      split at h
      · exact sCpy_ok hF0 hs hG hpt hsz hS hd he h k
      · cases h
    · cases h
  all_goals exact absurd h (by simp [sBlt])
end SBT
end
