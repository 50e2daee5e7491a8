noncomputable section
/-! ===== from the entry to the first call ===== -/
def sZr (wd : List sC) (k : Nat) : Bool := match wd[k]? with
  | some (.inr (t, n, [])) => Nat.beq t 0 && Nat.ble 40 n
  | _ => false
theorem sZr_ok {ρ : List Int} {ex : Nat → Nat} {g : sG} {wd : List sC} {ws : va_W} {k : Nat} (h : sZr wd k = true) (hr : sRW ρ ex g wd ws) : ∀ j, j < 40 → (sAc ws k j).toInt = 0 := by
  unfold sZr at h
  split at h
  · rename_i t n hk
    rw [Bool.and_eq_true] at h
    have ht : t = 0 := Nat.eq_of_beq_eq_true h.1
    have hn : 40 ≤ n := Nat.le_of_ble_eq_true h.2
    subst ht
    obtain ⟨a, e, h1, -, h3⟩ := sRW_get hr hk
    obtain ⟨f, rfl, hf⟩ := sInv0 h3
    intro j hj
    have hz := hf j (Nat.lt_of_lt_of_le hj hn)
    rw [sAc_at h1]
    have e0 : Value.int (f j) = Value.int (Int32.ofInt 0) := hz
    rw [Value.int.inj e0]
    decide
  · cases h
/-- a row of 700 that is still empty -/
def sZ7 (wd : List sC) (k : Nat) : Bool := match wd[k]? with
  | some (.inr (t, n, [])) => (Nat.beq t 0 || Nat.beq t 1) && Nat.ble 700 n
  | _ => false
theorem sZ7_ok {ρ : List Int} {ex : Nat → Nat} {g : sG} {wd : List sC} {ws : va_W} {k : Nat} (h : sZ7 wd k = true) (hr : sRW ρ ex g wd ws) : ∀ j, j < 700 → (sAc ws k j).toInt = 0 := by
  unfold sZ7 at h
  split at h
  · rename_i t n hk
    rw [Bool.and_eq_true, Bool.or_eq_true] at h
    have hn : 700 ≤ n := Nat.le_of_ble_eq_true h.2
    obtain ⟨a, e, h1, -, h3⟩ := sRW_get hr hk
    rcases h.1 with ht | ht
    · have ht : t = 0 := Nat.eq_of_beq_eq_true ht
      subst ht
      obtain ⟨f, rfl, hf⟩ := sInv0 h3
      intro j hj
      have hz := hf j (Nat.lt_of_lt_of_le hj hn)
      rw [sAc_at h1]
      have e0 : Value.int (f j) = Value.int (Int32.ofInt 0) := hz
      rw [Value.int.inj e0]
      decide
    · have ht : t = 1 := Nat.eq_of_beq_eq_true ht
      subst ht
      obtain ⟨f, rfl, hf⟩ : ∃ f : Nat → Int32, e = .inl (g.2.2.1, n, .inl f) ∧ ∀ j, j < n → sRep ρ (ws.map Prod.fst) ex (sLook (0, 0) [] j) (.int (f j)) := by
        cases e with
        | inr o => simp [sRepC] at h3
        | inl x =>
          obtain ⟨cA, n', f⟩ := x
          cases f with
          | inl f => obtain ⟨rfl, rfl, h⟩ := h3; exact ⟨f, rfl, h⟩
          | inr f => simp [sRepC] at h3
      intro j hj
      have hz := hf j (Nat.lt_of_lt_of_le hj hn)
      rw [sAc_at h1]
      have e0 : Value.int (f j) = Value.int (Int32.ofInt 0) := hz
      rw [Value.int.inj e0]
      decide
  · cases h
/-- a row that is still empty -/
def sZn (wd : List sC) (k m : Nat) : Bool := match wd[k]? with
  | some (.inr (t, n, [])) => Nat.beq t 0 && Nat.ble m n
  | _ => false
theorem sZn_ok {ρ : List Int} {ex : Nat → Nat} {g : sG} {wd : List sC} {ws : va_W} {k m : Nat} (h : sZn wd k m = true) (hr : sRW ρ ex g wd ws) : ∀ j, j < m → (sAc ws k j).toInt = 0 := by
  unfold sZn at h
  split at h
  · rename_i t n hk
    rw [Bool.and_eq_true] at h
    have ht : t = 0 := Nat.eq_of_beq_eq_true h.1
    have hn : m ≤ n := Nat.le_of_ble_eq_true h.2
    subst ht
    obtain ⟨a, e, h1, -, h3⟩ := sRW_get hr hk
    obtain ⟨f, rfl, hf⟩ := sInv0 h3
    intro j hj
    have hz := hf j (Nat.lt_of_lt_of_le hj hn)
    rw [sAc_at h1]
    have e0 : Value.int (f j) = Value.int (Int32.ofInt 0) := hz
    rw [Value.int.inj e0]
    decide
  · cases h
/-- these are 0 as it starts -/
def lX : List sFc := [(0, [(66, 0), (0, 0)], []), (0, [(0, 0), (66, 0)], []), (0, [(80, 0), (0, 0)], []), (0, [(0, 0), (80, 0)], []), (0, [(142, 0), (0, 0)], []), (0, [(0, 0), (142, 0)], []), (0, [(184, 0), (0, 0)], []), (0, [(0, 0), (184, 0)], []), (0, [(174, 0), (0, 0)], []), (0, [(0, 0), (174, 0)], []), (0, [(176, 0), (0, 0)], []), (0, [(0, 0), (176, 0)], []), (0, [(178, 0), (0, 0)], []), (0, [(0, 0), (178, 0)], []), (0, [(180, 0), (0, 0)], []), (0, [(0, 0), (180, 0)], []), (0, [(182, 0), (0, 0)], []), (0, [(0, 0), (182, 0)], []), (0, [(144, 0), (0, 0)], []), (0, [(0, 0), (144, 0)], []), (0, [(146, 0), (0, 0)], []), (0, [(0, 0), (146, 0)], []), (0, [(148, 0), (0, 0)], []), (0, [(0, 0), (148, 0)], [])]
theorem gA7_nil {A : Nat → Nat → Int32} {kr wr pr plr ok ow : Nat} {s h b c p k po : Int} (hpo : 0 ≤ po) : gA7 A [kr, wr, pr, plr, ok, ow] [0, s, h, b, c, p, k, po] := ⟨Int.le_refl _, by decide, hpo, fun i hi => by omega⟩
theorem lX_0 {ρ : List Int} (h : ∀ f ∈ lX, sPf ρ f) {t : Nat} (h1 : (0, [(t, 0), (0, 0)], []) ∈ lX) (h2 : (0, [(0, 0), (t, 0)], []) ∈ lX) : sEv ρ (t, 0) = some 0 := by
  obtain ⟨m, n, e1, e2, e3⟩ := h _ h1
  obtain ⟨m', n', e4, e5, e6⟩ := h _ h2
  have e2 : n = 0 := (Option.some.inj e2).symm
  have e4 : m' = 0 := (Option.some.inj e4).symm
  rw [e1] at e5
  have e5 : m = n' := Option.some.inj e5
  rw [e1, show m = 0 by omega]
def sEndS (u : sCu) (e : sO) : Bool := match e with
  | (3, (κ, G, wd, pc, lv, st, _, _), _) => Nat.beq u.1 pc && (sCutC 0 κ G wd lv st none (u.1, (u.2.1.1, u.2.1.2.1, lX ++ u.2.1.2.2), [(17, [(150, 0)], [])], u.2.2.2) && (sZr wd 44 && (sZr wd 60 && (sZ7 wd 1 && (sZ7 wd 99 && sZn wd 115 5)))))
  | _ => false
def sSta (PT : List sMd) (n d : Nat) (u : sCu) : Bool := match sGoN PT [] n d 0 [u.1] ((0, [], []), [], [], 0, [(0, (7, 0))], [], 0, 0) with
  | some (os, mc, ms) => Nat.ble mc 124 && (Nat.ble ms 7216 && os.all (sEndS u))
  | none => false
theorem sSta_ok {p : Program} {l : Launch} {e : Env} {Rm : Room} {s : State} {m : MethodId} {args : Array Value} {below : List Frame} {meth : Method} {c : Code} {Q : State → Prop} {ex : Nat → Nat} {g : sG} {L d n : Nat} {sc : Nat → Int32} {M : sMd} {PT : List sMd} {ls : Array Slot} {lc : List (Nat × Value)} (hPT : sOkP PT) (h : sSta PT n d lU = true) (hM : PT[0]? = some M) (hF : sFix p l Rm s m args meth c M d ex g s.heap.size L sc) (hcell : 124 ≤ Rm.cells) (hslot : 7216 ≤ Rm.slots) (hl : lv_has ls (mL M) lc) (hL : sA2 (sRL [] [] ex) [(0, (7, 0))] lc) (hgz : ∀ j, j < 700 → gT L sc j = 0)
    (K : ∀ (ρ' : List Int) (ws' : va_W) (H' : Heap) (locs' : List Loc) (ls' : Array Slot) (lc' : List (Nat × Value)), sCok ρ' lU.2.1 → (∀ f ∈ lU.2.2.1, sWf (sAc ws') L sc ρ' f) → sPt ρ' ex g (fun q => s.heap.size ≤ q) lU.2.2.2.1 ws' H' s.heap locs' → lv_has ls' (mL M) lc' → sA2 (sRL ρ' (ws'.map Prod.fst) ex) lU.2.2.2.2.1 lc' → W p l e Rm s m args below meth c H' locs' 124 7216 Q (F0 m 23 ls' [])) : W p l e Rm s m args below meth c s.heap [] 0 0 Q (F0 m 0 ls []) := by
  unfold sSta at h
  split at h
  · rename_i os mc ms hrun
    simp only [Bool.and_eq_true] at h
    obtain ⟨h1, h2, h3⟩ := h
    have h1 := Nat.le_of_ble_eq_true h1
    have h2 := Nat.le_of_ble_eq_true h2
    have hg := sGoN_ok hPT (SM := []) (fun I hI => by cases hI) n _ _ _ _ _ hrun
    refine hg.2.2.2 M hM [] ex g s.heap.size L sc p l e Rm s m args below meth c Q hF 0 0 (by show mc + 0 ≤ _; omega) (by show ms + 0 ≤ _; omega) [] s.heap [] ls lc [] ⟨⟨rfl, (fun w hw => by cases hw), (fun q hq => by cases hq)⟩, fun f hf => by cases hf⟩ (fun f hf => by cases hf) ⟨trivial, (fun k q h => by simp at h), ⟨(fun i j p q h => by simp at h), (fun k q h => by simp at h)⟩, va_S.rf⟩ hl hL trivial (fun o ho => ?_)
    intro ρ' ws' H' locs' ls' lc' vs' hr hp hs' hG' hpt' hl' hL' hS'
    have he := List.all_eq_true.mp h3 o ho
    have hcm := (hg.2.2.1 o ho).1
    obtain ⟨k, ⟨κ, G, wd, pc', lv, st, cl, sl⟩, x⟩ := o
    unfold sEndS at he
    split at he
    · rename_i e0
      cases e0
      simp only [Bool.and_eq_true] at he
      obtain ⟨hpc, he, hz1, hz2, hz3, hz4, hz5⟩ := he
      have hpc : 23 = pc' := Nat.eq_of_beq_eq_true hpc
      refine ⟨fun _ => ?_, fun q => by cases q⟩
      unfold sCutC at he
      generalize sSig κ G wd lv st _ _ _ _ _ 0 = sg at he
      simp only [sCut1, Bool.and_eq_true] at he
      obtain ⟨h4, h5, h6, -⟩ := he
      obtain ⟨hsg, q1, q2, q3⟩ := sCov_ok hs' hG' hpt'.1 h6
      obtain ⟨lc2, hl2, hL2⟩ := sSmV_ok hs' hsg hl' hL' _ h4
      have hvs := sSmL_ok hs' hsg _ _ _ h5 hS'
      have hv0 := sA2_nil hvs
      subst hv0
      have c1 : cl ≤ mc := hcm.1
      have c2 : sl ≤ ms := hcm.2.1
      refine W.widen (k := 124) (n := 7216) (by show cl + 0 ≤ _; omega) (by show sl + 0 ≤ _; omega) ?_
      show W p l e Rm s m args below meth c H' locs' 124 7216 Q (F0 m pc' ls' [])
      rw [← hpc]
      have hX : ∀ f ∈ lX, sPf (sRz ρ' 0 sg) f := fun f hf => q1.2 f (List.mem_append_left _ hf)
      have hE : ∀ x : sV, sDef lU.2.1.1 x = true → sEv (sRz ρ' 0 sg) x = some (gE (sRz ρ' 0 sg) x) := fun x hx => gE_def q1.1 hx
      refine K (sRz ρ' 0 sg) ws' H' locs' ls' lc2 ⟨q1.1, fun f hf => q1.2 f (List.mem_append_right _ hf)⟩ (fun f hf => ?_) ⟨q3, hpt'.2⟩ hl2 hL2
      have hz1 := sZr_ok hz1 hpt'.1
      have hz2 := sZr_ok hz2 hpt'.1
      have hz3 := sZ7_ok hz3 hpt'.1
      have hz4 := sZ7_ok hz4 hpt'.1
      have hz5 := sZn_ok hz5 hpt'.1
      rcases List.mem_cons.mp hf with rfl | hf
      · intro j hj _
        show 0 ≤ (sAc ws' 44 j).toInt ∧ (sAc ws' 44 j).toInt ≤ 7
        rw [hz1 j hj]
        exact ⟨by decide, by decide⟩
      · rcases List.mem_cons.mp hf with rfl | hf
        · intro j hj _
          show 0 ≤ (sAc ws' 60 j).toInt ∧ (sAc ws' 60 j).toInt ≤ 7
          rw [hz2 j hj]
          exact ⟨by decide, by decide⟩
        · rcases List.mem_cons.mp hf with rfl | hf
          · exact q2 _ List.mem_cons_self
          · rcases List.mem_cons.mp hf with rfl | hf
            · exact ⟨0, 0, rfl, rfl, fun j hj _ => by rw [hz3 j hj, hgz j hj]; rfl⟩
            · rcases List.mem_cons.mp hf with rfl | hf
              · exact ⟨0, 0, rfl, rfl, fun j hj _ => by rw [hz4 j hj, hgz j hj]; rfl⟩
              rcases List.mem_cons.mp hf with rfl | hf
              · exact ⟨[0, _, _, _, _, _, _, _], ⟨(lX_0 hX List.mem_cons_self (List.mem_cons_of_mem _ List.mem_cons_self)), (hE (116, 0) (by decide +kernel)), (hE (118, 0) (by decide +kernel)), (hE (120, 0) (by decide +kernel)), (hE (122, 0) (by decide +kernel)), (hE (124, 0) (by decide +kernel)), rfl, rfl, trivial⟩, gA7_nil (by decide)⟩
              rcases List.mem_cons.mp hf with rfl | hf
              · exact ⟨[0, _, _, _, _, _, _, _], ⟨(lX_0 hX (List.mem_cons_of_mem _ (List.mem_cons_of_mem _ List.mem_cons_self)) (List.mem_cons_of_mem _ (List.mem_cons_of_mem _ (List.mem_cons_of_mem _ List.mem_cons_self)))), (lX_0 hX (List.mem_cons_of_mem _ (List.mem_cons_of_mem _ (List.mem_cons_of_mem _ (List.mem_cons_of_mem _ (List.mem_cons_of_mem _ (List.mem_cons_of_mem _ (List.mem_cons_of_mem _ (List.mem_cons_of_mem _ List.mem_cons_self)))))))) (List.mem_cons_of_mem _ (List.mem_cons_of_mem _ (List.mem_cons_of_mem _ (List.mem_cons_of_mem _ (List.mem_cons_of_mem _ (List.mem_cons_of_mem _ (List.mem_cons_of_mem _ (List.mem_cons_of_mem _ (List.mem_cons_of_mem _ List.mem_cons_self)))))))))), (lX_0 hX (List.mem_cons_of_mem _ (List.mem_cons_of_mem _ (List.mem_cons_of_mem _ (List.mem_cons_of_mem _ (List.mem_cons_of_mem _ (List.mem_cons_of_mem _ (List.mem_cons_of_mem _ (List.mem_cons_of_mem _ (List.mem_cons_of_mem _ (List.mem_cons_of_mem _ List.mem_cons_self)))))))))) (List.mem_cons_of_mem _ (List.mem_cons_of_mem _ (List.mem_cons_of_mem _ (List.mem_cons_of_mem _ (List.mem_cons_of_mem _ (List.mem_cons_of_mem _ (List.mem_cons_of_mem _ (List.mem_cons_of_mem _ (List.mem_cons_of_mem _ (List.mem_cons_of_mem _ (List.mem_cons_of_mem _ List.mem_cons_self)))))))))))), (lX_0 hX (List.mem_cons_of_mem _ (List.mem_cons_of_mem _ (List.mem_cons_of_mem _ (List.mem_cons_of_mem _ (List.mem_cons_of_mem _ (List.mem_cons_of_mem _ (List.mem_cons_of_mem _ (List.mem_cons_of_mem _ (List.mem_cons_of_mem _ (List.mem_cons_of_mem _ (List.mem_cons_of_mem _ (List.mem_cons_of_mem _ List.mem_cons_self)))))))))))) (List.mem_cons_of_mem _ (List.mem_cons_of_mem _ (List.mem_cons_of_mem _ (List.mem_cons_of_mem _ (List.mem_cons_of_mem _ (List.mem_cons_of_mem _ (List.mem_cons_of_mem _ (List.mem_cons_of_mem _ (List.mem_cons_of_mem _ (List.mem_cons_of_mem _ (List.mem_cons_of_mem _ (List.mem_cons_of_mem _ (List.mem_cons_of_mem _ List.mem_cons_self)))))))))))))), (lX_0 hX (List.mem_cons_of_mem _ (List.mem_cons_of_mem _ (List.mem_cons_of_mem _ (List.mem_cons_of_mem _ (List.mem_cons_of_mem _ (List.mem_cons_of_mem _ (List.mem_cons_of_mem _ (List.mem_cons_of_mem _ (List.mem_cons_of_mem _ (List.mem_cons_of_mem _ (List.mem_cons_of_mem _ (List.mem_cons_of_mem _ (List.mem_cons_of_mem _ (List.mem_cons_of_mem _ List.mem_cons_self)))))))))))))) (List.mem_cons_of_mem _ (List.mem_cons_of_mem _ (List.mem_cons_of_mem _ (List.mem_cons_of_mem _ (List.mem_cons_of_mem _ (List.mem_cons_of_mem _ (List.mem_cons_of_mem _ (List.mem_cons_of_mem _ (List.mem_cons_of_mem _ (List.mem_cons_of_mem _ (List.mem_cons_of_mem _ (List.mem_cons_of_mem _ (List.mem_cons_of_mem _ (List.mem_cons_of_mem _ (List.mem_cons_of_mem _ List.mem_cons_self)))))))))))))))), (lX_0 hX (List.mem_cons_of_mem _ (List.mem_cons_of_mem _ (List.mem_cons_of_mem _ (List.mem_cons_of_mem _ (List.mem_cons_of_mem _ (List.mem_cons_of_mem _ (List.mem_cons_of_mem _ (List.mem_cons_of_mem _ (List.mem_cons_of_mem _ (List.mem_cons_of_mem _ (List.mem_cons_of_mem _ (List.mem_cons_of_mem _ (List.mem_cons_of_mem _ (List.mem_cons_of_mem _ (List.mem_cons_of_mem _ (List.mem_cons_of_mem _ List.mem_cons_self)))))))))))))))) (List.mem_cons_of_mem _ (List.mem_cons_of_mem _ (List.mem_cons_of_mem _ (List.mem_cons_of_mem _ (List.mem_cons_of_mem _ (List.mem_cons_of_mem _ (List.mem_cons_of_mem _ (List.mem_cons_of_mem _ (List.mem_cons_of_mem _ (List.mem_cons_of_mem _ (List.mem_cons_of_mem _ (List.mem_cons_of_mem _ (List.mem_cons_of_mem _ (List.mem_cons_of_mem _ (List.mem_cons_of_mem _ (List.mem_cons_of_mem _ (List.mem_cons_of_mem _ List.mem_cons_self)))))))))))))))))), rfl, rfl, trivial⟩, gA7_nil (by decide)⟩
              rcases List.mem_cons.mp hf with rfl | hf
              · exact ⟨_, _, rfl, (lX_0 hX (List.mem_cons_of_mem _ (List.mem_cons_of_mem _ (List.mem_cons_of_mem _ (List.mem_cons_of_mem _ (List.mem_cons_of_mem _ (List.mem_cons_of_mem _ (List.mem_cons_of_mem _ (List.mem_cons_of_mem _ List.mem_cons_self)))))))) (List.mem_cons_of_mem _ (List.mem_cons_of_mem _ (List.mem_cons_of_mem _ (List.mem_cons_of_mem _ (List.mem_cons_of_mem _ (List.mem_cons_of_mem _ (List.mem_cons_of_mem _ (List.mem_cons_of_mem _ (List.mem_cons_of_mem _ List.mem_cons_self)))))))))), by decide, hz5 0 (by decide)⟩
              rcases List.mem_cons.mp hf with rfl | hf
              · exact ⟨_, _, rfl, (lX_0 hX (List.mem_cons_of_mem _ (List.mem_cons_of_mem _ (List.mem_cons_of_mem _ (List.mem_cons_of_mem _ (List.mem_cons_of_mem _ (List.mem_cons_of_mem _ (List.mem_cons_of_mem _ (List.mem_cons_of_mem _ (List.mem_cons_of_mem _ (List.mem_cons_of_mem _ List.mem_cons_self)))))))))) (List.mem_cons_of_mem _ (List.mem_cons_of_mem _ (List.mem_cons_of_mem _ (List.mem_cons_of_mem _ (List.mem_cons_of_mem _ (List.mem_cons_of_mem _ (List.mem_cons_of_mem _ (List.mem_cons_of_mem _ (List.mem_cons_of_mem _ (List.mem_cons_of_mem _ (List.mem_cons_of_mem _ List.mem_cons_self)))))))))))), by decide, hz5 1 (by decide)⟩
              rcases List.mem_cons.mp hf with rfl | hf
              · exact ⟨_, _, rfl, (lX_0 hX (List.mem_cons_of_mem _ (List.mem_cons_of_mem _ (List.mem_cons_of_mem _ (List.mem_cons_of_mem _ (List.mem_cons_of_mem _ (List.mem_cons_of_mem _ (List.mem_cons_of_mem _ (List.mem_cons_of_mem _ (List.mem_cons_of_mem _ (List.mem_cons_of_mem _ (List.mem_cons_of_mem _ (List.mem_cons_of_mem _ List.mem_cons_self)))))))))))) (List.mem_cons_of_mem _ (List.mem_cons_of_mem _ (List.mem_cons_of_mem _ (List.mem_cons_of_mem _ (List.mem_cons_of_mem _ (List.mem_cons_of_mem _ (List.mem_cons_of_mem _ (List.mem_cons_of_mem _ (List.mem_cons_of_mem _ (List.mem_cons_of_mem _ (List.mem_cons_of_mem _ (List.mem_cons_of_mem _ (List.mem_cons_of_mem _ List.mem_cons_self)))))))))))))), by decide, hz5 2 (by decide)⟩
              rcases List.mem_cons.mp hf with rfl | hf
              · exact ⟨_, _, rfl, (lX_0 hX (List.mem_cons_of_mem _ (List.mem_cons_of_mem _ (List.mem_cons_of_mem _ (List.mem_cons_of_mem _ (List.mem_cons_of_mem _ (List.mem_cons_of_mem _ (List.mem_cons_of_mem _ (List.mem_cons_of_mem _ (List.mem_cons_of_mem _ (List.mem_cons_of_mem _ (List.mem_cons_of_mem _ (List.mem_cons_of_mem _ (List.mem_cons_of_mem _ (List.mem_cons_of_mem _ List.mem_cons_self)))))))))))))) (List.mem_cons_of_mem _ (List.mem_cons_of_mem _ (List.mem_cons_of_mem _ (List.mem_cons_of_mem _ (List.mem_cons_of_mem _ (List.mem_cons_of_mem _ (List.mem_cons_of_mem _ (List.mem_cons_of_mem _ (List.mem_cons_of_mem _ (List.mem_cons_of_mem _ (List.mem_cons_of_mem _ (List.mem_cons_of_mem _ (List.mem_cons_of_mem _ (List.mem_cons_of_mem _ (List.mem_cons_of_mem _ List.mem_cons_self)))))))))))))))), by decide, hz5 3 (by decide)⟩
              rcases List.mem_cons.mp hf with rfl | hf
              · exact ⟨_, _, rfl, (lX_0 hX (List.mem_cons_of_mem _ (List.mem_cons_of_mem _ (List.mem_cons_of_mem _ (List.mem_cons_of_mem _ (List.mem_cons_of_mem _ (List.mem_cons_of_mem _ (List.mem_cons_of_mem _ (List.mem_cons_of_mem _ (List.mem_cons_of_mem _ (List.mem_cons_of_mem _ (List.mem_cons_of_mem _ (List.mem_cons_of_mem _ (List.mem_cons_of_mem _ (List.mem_cons_of_mem _ (List.mem_cons_of_mem _ (List.mem_cons_of_mem _ List.mem_cons_self)))))))))))))))) (List.mem_cons_of_mem _ (List.mem_cons_of_mem _ (List.mem_cons_of_mem _ (List.mem_cons_of_mem _ (List.mem_cons_of_mem _ (List.mem_cons_of_mem _ (List.mem_cons_of_mem _ (List.mem_cons_of_mem _ (List.mem_cons_of_mem _ (List.mem_cons_of_mem _ (List.mem_cons_of_mem _ (List.mem_cons_of_mem _ (List.mem_cons_of_mem _ (List.mem_cons_of_mem _ (List.mem_cons_of_mem _ (List.mem_cons_of_mem _ (List.mem_cons_of_mem _ List.mem_cons_self)))))))))))))))))), by decide, hz5 4 (by decide)⟩
              rcases List.mem_cons.mp hf with rfl | hf
              · exact ⟨[_, 0, _], ⟨(hE (116, 0) (by decide +kernel)), (lX_0 hX (List.mem_cons_of_mem _ (List.mem_cons_of_mem _ (List.mem_cons_of_mem _ (List.mem_cons_of_mem _ List.mem_cons_self)))) (List.mem_cons_of_mem _ (List.mem_cons_of_mem _ (List.mem_cons_of_mem _ (List.mem_cons_of_mem _ (List.mem_cons_of_mem _ List.mem_cons_self)))))), rfl, trivial⟩, fun j hj => by omega⟩
              rcases List.mem_cons.mp hf with rfl | hf
              · exact ⟨[_, 0, _], ⟨(hE (118, 0) (by decide +kernel)), (lX_0 hX (List.mem_cons_of_mem _ (List.mem_cons_of_mem _ (List.mem_cons_of_mem _ (List.mem_cons_of_mem _ List.mem_cons_self)))) (List.mem_cons_of_mem _ (List.mem_cons_of_mem _ (List.mem_cons_of_mem _ (List.mem_cons_of_mem _ (List.mem_cons_of_mem _ List.mem_cons_self)))))), rfl, trivial⟩, fun j hj => by omega⟩
              rcases List.mem_cons.mp hf with rfl | hf
              · exact ⟨[_, 0, _], ⟨(lX_0 hX (List.mem_cons_of_mem _ (List.mem_cons_of_mem _ (List.mem_cons_of_mem _ (List.mem_cons_of_mem _ (List.mem_cons_of_mem _ (List.mem_cons_of_mem _ (List.mem_cons_of_mem _ (List.mem_cons_of_mem _ List.mem_cons_self)))))))) (List.mem_cons_of_mem _ (List.mem_cons_of_mem _ (List.mem_cons_of_mem _ (List.mem_cons_of_mem _ (List.mem_cons_of_mem _ (List.mem_cons_of_mem _ (List.mem_cons_of_mem _ (List.mem_cons_of_mem _ (List.mem_cons_of_mem _ List.mem_cons_self)))))))))), (lX_0 hX (List.mem_cons_of_mem _ (List.mem_cons_of_mem _ (List.mem_cons_of_mem _ (List.mem_cons_of_mem _ (List.mem_cons_of_mem _ (List.mem_cons_of_mem _ List.mem_cons_self)))))) (List.mem_cons_of_mem _ (List.mem_cons_of_mem _ (List.mem_cons_of_mem _ (List.mem_cons_of_mem _ (List.mem_cons_of_mem _ (List.mem_cons_of_mem _ (List.mem_cons_of_mem _ List.mem_cons_self)))))))), rfl, trivial⟩, fun j hj => by omega⟩
              rcases List.mem_cons.mp hf with rfl | hf
              · exact ⟨[_, 0, _], ⟨(lX_0 hX (List.mem_cons_of_mem _ (List.mem_cons_of_mem _ (List.mem_cons_of_mem _ (List.mem_cons_of_mem _ (List.mem_cons_of_mem _ (List.mem_cons_of_mem _ (List.mem_cons_of_mem _ (List.mem_cons_of_mem _ (List.mem_cons_of_mem _ (List.mem_cons_of_mem _ List.mem_cons_self)))))))))) (List.mem_cons_of_mem _ (List.mem_cons_of_mem _ (List.mem_cons_of_mem _ (List.mem_cons_of_mem _ (List.mem_cons_of_mem _ (List.mem_cons_of_mem _ (List.mem_cons_of_mem _ (List.mem_cons_of_mem _ (List.mem_cons_of_mem _ (List.mem_cons_of_mem _ (List.mem_cons_of_mem _ List.mem_cons_self)))))))))))), (lX_0 hX (List.mem_cons_of_mem _ (List.mem_cons_of_mem _ (List.mem_cons_of_mem _ (List.mem_cons_of_mem _ (List.mem_cons_of_mem _ (List.mem_cons_of_mem _ List.mem_cons_self)))))) (List.mem_cons_of_mem _ (List.mem_cons_of_mem _ (List.mem_cons_of_mem _ (List.mem_cons_of_mem _ (List.mem_cons_of_mem _ (List.mem_cons_of_mem _ (List.mem_cons_of_mem _ List.mem_cons_self)))))))), rfl, trivial⟩, fun j hj => by omega⟩
              rcases List.mem_cons.mp hf with rfl | hf
              · exact ⟨[0, _, _], ⟨(lX_0 hX (List.mem_cons_of_mem _ (List.mem_cons_of_mem _ (List.mem_cons_of_mem _ (List.mem_cons_of_mem _ List.mem_cons_self)))) (List.mem_cons_of_mem _ (List.mem_cons_of_mem _ (List.mem_cons_of_mem _ (List.mem_cons_of_mem _ (List.mem_cons_of_mem _ List.mem_cons_self)))))), rfl, rfl, trivial⟩, by decide, by decide, fun j hj => by omega⟩
              rcases List.mem_cons.mp hf with rfl | hf
              · exact ⟨[0, _, _], ⟨(lX_0 hX (List.mem_cons_of_mem _ (List.mem_cons_of_mem _ (List.mem_cons_of_mem _ (List.mem_cons_of_mem _ List.mem_cons_self)))) (List.mem_cons_of_mem _ (List.mem_cons_of_mem _ (List.mem_cons_of_mem _ (List.mem_cons_of_mem _ (List.mem_cons_of_mem _ List.mem_cons_self)))))), rfl, rfl, trivial⟩, by decide, by decide, fun j hj => by omega⟩
              rcases List.mem_cons.mp hf with rfl | hf
              · exact ⟨[0, _, _], ⟨(lX_0 hX (List.mem_cons_of_mem _ (List.mem_cons_of_mem _ (List.mem_cons_of_mem _ (List.mem_cons_of_mem _ (List.mem_cons_of_mem _ (List.mem_cons_of_mem _ (List.mem_cons_of_mem _ (List.mem_cons_of_mem _ (List.mem_cons_of_mem _ (List.mem_cons_of_mem _ (List.mem_cons_of_mem _ (List.mem_cons_of_mem _ (List.mem_cons_of_mem _ (List.mem_cons_of_mem _ (List.mem_cons_of_mem _ (List.mem_cons_of_mem _ (List.mem_cons_of_mem _ (List.mem_cons_of_mem _ List.mem_cons_self)))))))))))))))))) (List.mem_cons_of_mem _ (List.mem_cons_of_mem _ (List.mem_cons_of_mem _ (List.mem_cons_of_mem _ (List.mem_cons_of_mem _ (List.mem_cons_of_mem _ (List.mem_cons_of_mem _ (List.mem_cons_of_mem _ (List.mem_cons_of_mem _ (List.mem_cons_of_mem _ (List.mem_cons_of_mem _ (List.mem_cons_of_mem _ (List.mem_cons_of_mem _ (List.mem_cons_of_mem _ (List.mem_cons_of_mem _ (List.mem_cons_of_mem _ (List.mem_cons_of_mem _ (List.mem_cons_of_mem _ (List.mem_cons_of_mem _ List.mem_cons_self)))))))))))))))))))), rfl, rfl, trivial⟩, by decide, by decide, fun j hj => by omega⟩
              rcases List.mem_cons.mp hf with rfl | hf
              · exact ⟨[0, _, _], ⟨(lX_0 hX (List.mem_cons_of_mem _ (List.mem_cons_of_mem _ (List.mem_cons_of_mem _ (List.mem_cons_of_mem _ (List.mem_cons_of_mem _ (List.mem_cons_of_mem _ (List.mem_cons_of_mem _ (List.mem_cons_of_mem _ (List.mem_cons_of_mem _ (List.mem_cons_of_mem _ (List.mem_cons_of_mem _ (List.mem_cons_of_mem _ (List.mem_cons_of_mem _ (List.mem_cons_of_mem _ (List.mem_cons_of_mem _ (List.mem_cons_of_mem _ (List.mem_cons_of_mem _ (List.mem_cons_of_mem _ List.mem_cons_self)))))))))))))))))) (List.mem_cons_of_mem _ (List.mem_cons_of_mem _ (List.mem_cons_of_mem _ (List.mem_cons_of_mem _ (List.mem_cons_of_mem _ (List.mem_cons_of_mem _ (List.mem_cons_of_mem _ (List.mem_cons_of_mem _ (List.mem_cons_of_mem _ (List.mem_cons_of_mem _ (List.mem_cons_of_mem _ (List.mem_cons_of_mem _ (List.mem_cons_of_mem _ (List.mem_cons_of_mem _ (List.mem_cons_of_mem _ (List.mem_cons_of_mem _ (List.mem_cons_of_mem _ (List.mem_cons_of_mem _ (List.mem_cons_of_mem _ List.mem_cons_self)))))))))))))))))))), rfl, rfl, trivial⟩, by decide, by decide, fun j hj => by omega⟩
              rcases List.mem_cons.mp hf with rfl | hf
              · exact ⟨[0, _, _], ⟨(lX_0 hX (List.mem_cons_of_mem _ (List.mem_cons_of_mem _ (List.mem_cons_of_mem _ (List.mem_cons_of_mem _ (List.mem_cons_of_mem _ (List.mem_cons_of_mem _ (List.mem_cons_of_mem _ (List.mem_cons_of_mem _ (List.mem_cons_of_mem _ (List.mem_cons_of_mem _ (List.mem_cons_of_mem _ (List.mem_cons_of_mem _ (List.mem_cons_of_mem _ (List.mem_cons_of_mem _ (List.mem_cons_of_mem _ (List.mem_cons_of_mem _ (List.mem_cons_of_mem _ (List.mem_cons_of_mem _ List.mem_cons_self)))))))))))))))))) (List.mem_cons_of_mem _ (List.mem_cons_of_mem _ (List.mem_cons_of_mem _ (List.mem_cons_of_mem _ (List.mem_cons_of_mem _ (List.mem_cons_of_mem _ (List.mem_cons_of_mem _ (List.mem_cons_of_mem _ (List.mem_cons_of_mem _ (List.mem_cons_of_mem _ (List.mem_cons_of_mem _ (List.mem_cons_of_mem _ (List.mem_cons_of_mem _ (List.mem_cons_of_mem _ (List.mem_cons_of_mem _ (List.mem_cons_of_mem _ (List.mem_cons_of_mem _ (List.mem_cons_of_mem _ (List.mem_cons_of_mem _ List.mem_cons_self)))))))))))))))))))), rfl, rfl, trivial⟩, by decide, by decide, fun j hj => by omega⟩
              rcases List.mem_cons.mp hf with rfl | hf
              · exact ⟨[0, _, _], ⟨(lX_0 hX (List.mem_cons_of_mem _ (List.mem_cons_of_mem _ (List.mem_cons_of_mem _ (List.mem_cons_of_mem _ (List.mem_cons_of_mem _ (List.mem_cons_of_mem _ (List.mem_cons_of_mem _ (List.mem_cons_of_mem _ (List.mem_cons_of_mem _ (List.mem_cons_of_mem _ (List.mem_cons_of_mem _ (List.mem_cons_of_mem _ (List.mem_cons_of_mem _ (List.mem_cons_of_mem _ (List.mem_cons_of_mem _ (List.mem_cons_of_mem _ (List.mem_cons_of_mem _ (List.mem_cons_of_mem _ (List.mem_cons_of_mem _ (List.mem_cons_of_mem _ List.mem_cons_self)))))))))))))))))))) (List.mem_cons_of_mem _ (List.mem_cons_of_mem _ (List.mem_cons_of_mem _ (List.mem_cons_of_mem _ (List.mem_cons_of_mem _ (List.mem_cons_of_mem _ (List.mem_cons_of_mem _ (List.mem_cons_of_mem _ (List.mem_cons_of_mem _ (List.mem_cons_of_mem _ (List.mem_cons_of_mem _ (List.mem_cons_of_mem _ (List.mem_cons_of_mem _ (List.mem_cons_of_mem _ (List.mem_cons_of_mem _ (List.mem_cons_of_mem _ (List.mem_cons_of_mem _ (List.mem_cons_of_mem _ (List.mem_cons_of_mem _ (List.mem_cons_of_mem _ (List.mem_cons_of_mem _ List.mem_cons_self)))))))))))))))))))))), rfl, rfl, trivial⟩, by decide, by decide, fun j hj => by omega⟩
              rcases List.mem_cons.mp hf with rfl | hf
              · exact ⟨[0, _, _], ⟨(lX_0 hX (List.mem_cons_of_mem _ (List.mem_cons_of_mem _ (List.mem_cons_of_mem _ (List.mem_cons_of_mem _ (List.mem_cons_of_mem _ (List.mem_cons_of_mem _ (List.mem_cons_of_mem _ (List.mem_cons_of_mem _ (List.mem_cons_of_mem _ (List.mem_cons_of_mem _ (List.mem_cons_of_mem _ (List.mem_cons_of_mem _ (List.mem_cons_of_mem _ (List.mem_cons_of_mem _ (List.mem_cons_of_mem _ (List.mem_cons_of_mem _ (List.mem_cons_of_mem _ (List.mem_cons_of_mem _ (List.mem_cons_of_mem _ (List.mem_cons_of_mem _ List.mem_cons_self)))))))))))))))))))) (List.mem_cons_of_mem _ (List.mem_cons_of_mem _ (List.mem_cons_of_mem _ (List.mem_cons_of_mem _ (List.mem_cons_of_mem _ (List.mem_cons_of_mem _ (List.mem_cons_of_mem _ (List.mem_cons_of_mem _ (List.mem_cons_of_mem _ (List.mem_cons_of_mem _ (List.mem_cons_of_mem _ (List.mem_cons_of_mem _ (List.mem_cons_of_mem _ (List.mem_cons_of_mem _ (List.mem_cons_of_mem _ (List.mem_cons_of_mem _ (List.mem_cons_of_mem _ (List.mem_cons_of_mem _ (List.mem_cons_of_mem _ (List.mem_cons_of_mem _ (List.mem_cons_of_mem _ List.mem_cons_self)))))))))))))))))))))), rfl, rfl, trivial⟩, by decide, by decide, fun j hj => by omega⟩
              rcases List.mem_cons.mp hf with rfl | hf
              · exact ⟨[0, _, _], ⟨(lX_0 hX (List.mem_cons_of_mem _ (List.mem_cons_of_mem _ (List.mem_cons_of_mem _ (List.mem_cons_of_mem _ (List.mem_cons_of_mem _ (List.mem_cons_of_mem _ (List.mem_cons_of_mem _ (List.mem_cons_of_mem _ (List.mem_cons_of_mem _ (List.mem_cons_of_mem _ (List.mem_cons_of_mem _ (List.mem_cons_of_mem _ (List.mem_cons_of_mem _ (List.mem_cons_of_mem _ (List.mem_cons_of_mem _ (List.mem_cons_of_mem _ (List.mem_cons_of_mem _ (List.mem_cons_of_mem _ (List.mem_cons_of_mem _ (List.mem_cons_of_mem _ List.mem_cons_self)))))))))))))))))))) (List.mem_cons_of_mem _ (List.mem_cons_of_mem _ (List.mem_cons_of_mem _ (List.mem_cons_of_mem _ (List.mem_cons_of_mem _ (List.mem_cons_of_mem _ (List.mem_cons_of_mem _ (List.mem_cons_of_mem _ (List.mem_cons_of_mem _ (List.mem_cons_of_mem _ (List.mem_cons_of_mem _ (List.mem_cons_of_mem _ (List.mem_cons_of_mem _ (List.mem_cons_of_mem _ (List.mem_cons_of_mem _ (List.mem_cons_of_mem _ (List.mem_cons_of_mem _ (List.mem_cons_of_mem _ (List.mem_cons_of_mem _ (List.mem_cons_of_mem _ (List.mem_cons_of_mem _ List.mem_cons_self)))))))))))))))))))))), rfl, rfl, trivial⟩, by decide, by decide, fun j hj => by omega⟩
              rcases List.mem_cons.mp hf with rfl | hf
              · exact ⟨[0, _, _], ⟨(lX_0 hX (List.mem_cons_of_mem _ (List.mem_cons_of_mem _ (List.mem_cons_of_mem _ (List.mem_cons_of_mem _ (List.mem_cons_of_mem _ (List.mem_cons_of_mem _ (List.mem_cons_of_mem _ (List.mem_cons_of_mem _ (List.mem_cons_of_mem _ (List.mem_cons_of_mem _ (List.mem_cons_of_mem _ (List.mem_cons_of_mem _ (List.mem_cons_of_mem _ (List.mem_cons_of_mem _ (List.mem_cons_of_mem _ (List.mem_cons_of_mem _ (List.mem_cons_of_mem _ (List.mem_cons_of_mem _ (List.mem_cons_of_mem _ (List.mem_cons_of_mem _ (List.mem_cons_of_mem _ (List.mem_cons_of_mem _ List.mem_cons_self)))))))))))))))))))))) (List.mem_cons_of_mem _ (List.mem_cons_of_mem _ (List.mem_cons_of_mem _ (List.mem_cons_of_mem _ (List.mem_cons_of_mem _ (List.mem_cons_of_mem _ (List.mem_cons_of_mem _ (List.mem_cons_of_mem _ (List.mem_cons_of_mem _ (List.mem_cons_of_mem _ (List.mem_cons_of_mem _ (List.mem_cons_of_mem _ (List.mem_cons_of_mem _ (List.mem_cons_of_mem _ (List.mem_cons_of_mem _ (List.mem_cons_of_mem _ (List.mem_cons_of_mem _ (List.mem_cons_of_mem _ (List.mem_cons_of_mem _ (List.mem_cons_of_mem _ (List.mem_cons_of_mem _ (List.mem_cons_of_mem _ (List.mem_cons_of_mem _ List.mem_cons_self)))))))))))))))))))))))), rfl, rfl, trivial⟩, by decide, by decide, fun j hj => by omega⟩
              rcases List.mem_cons.mp hf with rfl | hf
              · exact ⟨[0, _, _], ⟨(lX_0 hX (List.mem_cons_of_mem _ (List.mem_cons_of_mem _ (List.mem_cons_of_mem _ (List.mem_cons_of_mem _ (List.mem_cons_of_mem _ (List.mem_cons_of_mem _ (List.mem_cons_of_mem _ (List.mem_cons_of_mem _ (List.mem_cons_of_mem _ (List.mem_cons_of_mem _ (List.mem_cons_of_mem _ (List.mem_cons_of_mem _ (List.mem_cons_of_mem _ (List.mem_cons_of_mem _ (List.mem_cons_of_mem _ (List.mem_cons_of_mem _ (List.mem_cons_of_mem _ (List.mem_cons_of_mem _ (List.mem_cons_of_mem _ (List.mem_cons_of_mem _ (List.mem_cons_of_mem _ (List.mem_cons_of_mem _ List.mem_cons_self)))))))))))))))))))))) (List.mem_cons_of_mem _ (List.mem_cons_of_mem _ (List.mem_cons_of_mem _ (List.mem_cons_of_mem _ (List.mem_cons_of_mem _ (List.mem_cons_of_mem _ (List.mem_cons_of_mem _ (List.mem_cons_of_mem _ (List.mem_cons_of_mem _ (List.mem_cons_of_mem _ (List.mem_cons_of_mem _ (List.mem_cons_of_mem _ (List.mem_cons_of_mem _ (List.mem_cons_of_mem _ (List.mem_cons_of_mem _ (List.mem_cons_of_mem _ (List.mem_cons_of_mem _ (List.mem_cons_of_mem _ (List.mem_cons_of_mem _ (List.mem_cons_of_mem _ (List.mem_cons_of_mem _ (List.mem_cons_of_mem _ (List.mem_cons_of_mem _ List.mem_cons_self)))))))))))))))))))))))), rfl, rfl, trivial⟩, by decide, by decide, fun j hj => by omega⟩
              rcases List.mem_cons.mp hf with rfl | hf
              · exact ⟨[0, _], ⟨(lX_0 hX (List.mem_cons_of_mem _ (List.mem_cons_of_mem _ (List.mem_cons_of_mem _ (List.mem_cons_of_mem _ (List.mem_cons_of_mem _ (List.mem_cons_of_mem _ (List.mem_cons_of_mem _ (List.mem_cons_of_mem _ (List.mem_cons_of_mem _ (List.mem_cons_of_mem _ (List.mem_cons_of_mem _ (List.mem_cons_of_mem _ (List.mem_cons_of_mem _ (List.mem_cons_of_mem _ (List.mem_cons_of_mem _ (List.mem_cons_of_mem _ (List.mem_cons_of_mem _ (List.mem_cons_of_mem _ List.mem_cons_self)))))))))))))))))) (List.mem_cons_of_mem _ (List.mem_cons_of_mem _ (List.mem_cons_of_mem _ (List.mem_cons_of_mem _ (List.mem_cons_of_mem _ (List.mem_cons_of_mem _ (List.mem_cons_of_mem _ (List.mem_cons_of_mem _ (List.mem_cons_of_mem _ (List.mem_cons_of_mem _ (List.mem_cons_of_mem _ (List.mem_cons_of_mem _ (List.mem_cons_of_mem _ (List.mem_cons_of_mem _ (List.mem_cons_of_mem _ (List.mem_cons_of_mem _ (List.mem_cons_of_mem _ (List.mem_cons_of_mem _ (List.mem_cons_of_mem _ List.mem_cons_self)))))))))))))))))))), (lX_0 hX (List.mem_cons_of_mem _ (List.mem_cons_of_mem _ (List.mem_cons_of_mem _ (List.mem_cons_of_mem _ List.mem_cons_self)))) (List.mem_cons_of_mem _ (List.mem_cons_of_mem _ (List.mem_cons_of_mem _ (List.mem_cons_of_mem _ (List.mem_cons_of_mem _ List.mem_cons_self)))))), trivial⟩, gA9_0.mpr (show ∀ j : Nat, (j : Int) < 0 → _ from fun j hj => by omega)⟩
              rcases List.mem_cons.mp hf with rfl | hf
              · exact ⟨[0, _], ⟨(lX_0 hX (List.mem_cons_of_mem _ (List.mem_cons_of_mem _ (List.mem_cons_of_mem _ (List.mem_cons_of_mem _ (List.mem_cons_of_mem _ (List.mem_cons_of_mem _ (List.mem_cons_of_mem _ (List.mem_cons_of_mem _ (List.mem_cons_of_mem _ (List.mem_cons_of_mem _ (List.mem_cons_of_mem _ (List.mem_cons_of_mem _ (List.mem_cons_of_mem _ (List.mem_cons_of_mem _ (List.mem_cons_of_mem _ (List.mem_cons_of_mem _ (List.mem_cons_of_mem _ (List.mem_cons_of_mem _ List.mem_cons_self)))))))))))))))))) (List.mem_cons_of_mem _ (List.mem_cons_of_mem _ (List.mem_cons_of_mem _ (List.mem_cons_of_mem _ (List.mem_cons_of_mem _ (List.mem_cons_of_mem _ (List.mem_cons_of_mem _ (List.mem_cons_of_mem _ (List.mem_cons_of_mem _ (List.mem_cons_of_mem _ (List.mem_cons_of_mem _ (List.mem_cons_of_mem _ (List.mem_cons_of_mem _ (List.mem_cons_of_mem _ (List.mem_cons_of_mem _ (List.mem_cons_of_mem _ (List.mem_cons_of_mem _ (List.mem_cons_of_mem _ (List.mem_cons_of_mem _ List.mem_cons_self)))))))))))))))))))), (lX_0 hX (List.mem_cons_of_mem _ (List.mem_cons_of_mem _ (List.mem_cons_of_mem _ (List.mem_cons_of_mem _ List.mem_cons_self)))) (List.mem_cons_of_mem _ (List.mem_cons_of_mem _ (List.mem_cons_of_mem _ (List.mem_cons_of_mem _ (List.mem_cons_of_mem _ List.mem_cons_self)))))), trivial⟩, gA9_0.mpr (show ∀ j : Nat, (j : Int) < 0 → _ from fun j hj => by omega)⟩
              rcases List.mem_cons.mp hf with rfl | hf
              · exact ⟨[0, _], ⟨(lX_0 hX (List.mem_cons_of_mem _ (List.mem_cons_of_mem _ (List.mem_cons_of_mem _ (List.mem_cons_of_mem _ (List.mem_cons_of_mem _ (List.mem_cons_of_mem _ (List.mem_cons_of_mem _ (List.mem_cons_of_mem _ (List.mem_cons_of_mem _ (List.mem_cons_of_mem _ (List.mem_cons_of_mem _ (List.mem_cons_of_mem _ (List.mem_cons_of_mem _ (List.mem_cons_of_mem _ (List.mem_cons_of_mem _ (List.mem_cons_of_mem _ (List.mem_cons_of_mem _ (List.mem_cons_of_mem _ (List.mem_cons_of_mem _ (List.mem_cons_of_mem _ (List.mem_cons_of_mem _ (List.mem_cons_of_mem _ List.mem_cons_self)))))))))))))))))))))) (List.mem_cons_of_mem _ (List.mem_cons_of_mem _ (List.mem_cons_of_mem _ (List.mem_cons_of_mem _ (List.mem_cons_of_mem _ (List.mem_cons_of_mem _ (List.mem_cons_of_mem _ (List.mem_cons_of_mem _ (List.mem_cons_of_mem _ (List.mem_cons_of_mem _ (List.mem_cons_of_mem _ (List.mem_cons_of_mem _ (List.mem_cons_of_mem _ (List.mem_cons_of_mem _ (List.mem_cons_of_mem _ (List.mem_cons_of_mem _ (List.mem_cons_of_mem _ (List.mem_cons_of_mem _ (List.mem_cons_of_mem _ (List.mem_cons_of_mem _ (List.mem_cons_of_mem _ (List.mem_cons_of_mem _ (List.mem_cons_of_mem _ List.mem_cons_self)))))))))))))))))))))))), (lX_0 hX (List.mem_cons_of_mem _ (List.mem_cons_of_mem _ (List.mem_cons_of_mem _ (List.mem_cons_of_mem _ List.mem_cons_self)))) (List.mem_cons_of_mem _ (List.mem_cons_of_mem _ (List.mem_cons_of_mem _ (List.mem_cons_of_mem _ (List.mem_cons_of_mem _ List.mem_cons_self)))))), trivial⟩, gA9_0.mpr (show ∀ j : Nat, (j : Int) < 0 → _ from fun j hj => by omega)⟩
              rcases List.mem_cons.mp hf with rfl | hf
              · exact ⟨[0, _], ⟨(lX_0 hX (List.mem_cons_of_mem _ (List.mem_cons_of_mem _ (List.mem_cons_of_mem _ (List.mem_cons_of_mem _ (List.mem_cons_of_mem _ (List.mem_cons_of_mem _ (List.mem_cons_of_mem _ (List.mem_cons_of_mem _ (List.mem_cons_of_mem _ (List.mem_cons_of_mem _ (List.mem_cons_of_mem _ (List.mem_cons_of_mem _ (List.mem_cons_of_mem _ (List.mem_cons_of_mem _ (List.mem_cons_of_mem _ (List.mem_cons_of_mem _ (List.mem_cons_of_mem _ (List.mem_cons_of_mem _ (List.mem_cons_of_mem _ (List.mem_cons_of_mem _ (List.mem_cons_of_mem _ (List.mem_cons_of_mem _ List.mem_cons_self)))))))))))))))))))))) (List.mem_cons_of_mem _ (List.mem_cons_of_mem _ (List.mem_cons_of_mem _ (List.mem_cons_of_mem _ (List.mem_cons_of_mem _ (List.mem_cons_of_mem _ (List.mem_cons_of_mem _ (List.mem_cons_of_mem _ (List.mem_cons_of_mem _ (List.mem_cons_of_mem _ (List.mem_cons_of_mem _ (List.mem_cons_of_mem _ (List.mem_cons_of_mem _ (List.mem_cons_of_mem _ (List.mem_cons_of_mem _ (List.mem_cons_of_mem _ (List.mem_cons_of_mem _ (List.mem_cons_of_mem _ (List.mem_cons_of_mem _ (List.mem_cons_of_mem _ (List.mem_cons_of_mem _ (List.mem_cons_of_mem _ (List.mem_cons_of_mem _ List.mem_cons_self)))))))))))))))))))))))), (lX_0 hX (List.mem_cons_of_mem _ (List.mem_cons_of_mem _ (List.mem_cons_of_mem _ (List.mem_cons_of_mem _ List.mem_cons_self)))) (List.mem_cons_of_mem _ (List.mem_cons_of_mem _ (List.mem_cons_of_mem _ (List.mem_cons_of_mem _ (List.mem_cons_of_mem _ List.mem_cons_self)))))), trivial⟩, gA9_0.mpr (show ∀ j : Nat, (j : Int) < 0 → _ from fun j hj => by omega)⟩
              rcases List.mem_cons.mp hf with rfl | hf
              · exact ⟨[0, _], ⟨(lX_0 hX (List.mem_cons_of_mem _ (List.mem_cons_of_mem _ (List.mem_cons_of_mem _ (List.mem_cons_of_mem _ (List.mem_cons_of_mem _ (List.mem_cons_of_mem _ (List.mem_cons_of_mem _ (List.mem_cons_of_mem _ (List.mem_cons_of_mem _ (List.mem_cons_of_mem _ (List.mem_cons_of_mem _ (List.mem_cons_of_mem _ (List.mem_cons_of_mem _ (List.mem_cons_of_mem _ (List.mem_cons_of_mem _ (List.mem_cons_of_mem _ (List.mem_cons_of_mem _ (List.mem_cons_of_mem _ (List.mem_cons_of_mem _ (List.mem_cons_of_mem _ List.mem_cons_self)))))))))))))))))))) (List.mem_cons_of_mem _ (List.mem_cons_of_mem _ (List.mem_cons_of_mem _ (List.mem_cons_of_mem _ (List.mem_cons_of_mem _ (List.mem_cons_of_mem _ (List.mem_cons_of_mem _ (List.mem_cons_of_mem _ (List.mem_cons_of_mem _ (List.mem_cons_of_mem _ (List.mem_cons_of_mem _ (List.mem_cons_of_mem _ (List.mem_cons_of_mem _ (List.mem_cons_of_mem _ (List.mem_cons_of_mem _ (List.mem_cons_of_mem _ (List.mem_cons_of_mem _ (List.mem_cons_of_mem _ (List.mem_cons_of_mem _ (List.mem_cons_of_mem _ (List.mem_cons_of_mem _ List.mem_cons_self)))))))))))))))))))))), (lX_0 hX (List.mem_cons_of_mem _ (List.mem_cons_of_mem _ (List.mem_cons_of_mem _ (List.mem_cons_of_mem _ List.mem_cons_self)))) (List.mem_cons_of_mem _ (List.mem_cons_of_mem _ (List.mem_cons_of_mem _ (List.mem_cons_of_mem _ (List.mem_cons_of_mem _ List.mem_cons_self)))))), trivial⟩, gA9_0.mpr (show ∀ j : Nat, (j : Int) < 0 → _ from fun j hj => by omega)⟩
              cases hf
    · cases he
  · cases h
/-- how much may be left of the script -/
theorem gZ_T {L j : Nat} {sc : Nat → Int32} : gT L (fun i => if i < L then sc i else 0) j = 0 := by
  unfold gT
  split
  · show (if L + j < L then sc (L + j) else 0).toInt % 256 = 0
    rw [if_neg (by omega)]
    rfl
  · rfl
theorem lw_mu {ρ : List Int} (hs : sCok ρ lU.2.1) : sMu ρ lU.2.2.2.2.2.2 < 2147480576 + 3073 := by
  obtain ⟨y, hy, h1, h2⟩ : ∃ y, ρ[78]? = some y ∧ 0 ≤ y ∧ y ≤ 3072 := by
    have q := hs.1.2.2 (78, 0, 3072) List.mem_cons_self
    unfold sQe at q
    rw [if_neg (by decide)] at q
    exact q
  have e1 : sEv ρ (172, 0) = some y := by
    rw [sEv_gen ⟨by decide, by decide⟩, if_pos (by decide)]
    show (ρ[78]?).map (fun y => y + 0) = some y
    rw [hy]
    show some (y + 0) = some y
    rw [Int.add_zero]
  have e2 : sMu ρ lU.2.2.2.2.2.2 = min (2147483648 - y).toNat 4294967296 * 4294967297 ^ 0 + 0 := by
    show sMv1 ρ (false, (172, 0)) * 4294967297 ^ 0 + 0 = _
    unfold sMv1
    simp only [e1]
    rfl
  rw [e2, Nat.pow_zero, Nat.mul_one, Nat.add_zero]
  omega
set_option maxRecDepth 100000 in
theorem st_run : sSta pPT 222 500 lU = true := by decide +kernel
end
