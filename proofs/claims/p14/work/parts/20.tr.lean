noncomputable section
/-! ===== instructions on cells, sound ===== -/
section SHW
variable {p : Program} {l : Launch} {e : Env} {R : Room} {s : State} {m : MethodId} {args : Array Value} {below : List Frame} {meth : Method} {c : Code} {H : Heap} {locs : List Loc} {cells slots : Nat} {Q : State → Prop}
variable {cc : ByteArray} {pc : Nat} {ls : Array Slot} {ρ : List Int} {ex : Nat → Nat} {κ : sCx} {G : List sFc} {g : sG} {n0 L : Nat} {sc : Nat → Int32} {wd : List sC} {ws : va_W} {st : List sV} {vs : List Value} {n dc ds : Nat} {os : List sH4} {own mn : String} {ax : List Nat}
/-- how a step over cells goes on -/
def sGo (p : Program) (l : Launch) (e : Env) (R : Room) (s : State) (m : MethodId) (args : Array Value) (below : List Frame) (meth : Method) (c : Code) (Q : State → Prop) (ls : Array Slot) (ρ : List Int) (ex : Nat → Nat) (g : sG) (n0 L : Nat) (sc : Nat → Int32) (ws : va_W) (os : List sH4) (cells' slots' pc' : Nat) : Prop :=
  ∀ o ∈ os, ∀ (ρ' : List Int) (ws' : va_W) (H' : Heap) (locs' : List Loc) (vs' : List Value), ρ <+: ρ' → ws.map Prod.fst <+: ws'.map Prod.fst → sCok ρ' o.1 → (∀ f ∈ o.2.1, sWf (sAc ws') L sc ρ' f) → sPt ρ' ex g (fun q => n0 ≤ q) o.2.2.1 ws' H' s.heap locs' → sA2 (sRep ρ' (ws'.map Prod.fst) ex) o.2.2.2 vs' → W p l e R s m args below meth c H' locs' cells' slots' Q (F0 m pc' ls vs')
theorem sObj_ok (h : sRW ρ ex g wd ws) {r : Int} {ci : Nat} {fs : List sV} (ho : sObj wd r = some (ci, fs)) : ∃ (a : Nat) (vs : List Value), ws[r.toNat]? = some (a, .inr (ci, vs)) ∧ sA2 (sRep ρ (ws.map Prod.fst) ex) fs vs := by
  unfold sObj at ho
  simp only [fAt_eq] at ho
  split at ho
  · rename_i q hq
    cases ho
    obtain ⟨a, e, h1, -, h3⟩ := sRW_get h hq
    cases e with
    | inl _ => exact h3.elim
    | inr o =>
      obtain ⟨cj, vs⟩ := o
      obtain ⟨rfl, h4⟩ := h3
      exact ⟨a, vs, h1, h4⟩
  · cases ho
theorem sKx_ok {ads : List Nat} (hs : sCok ρ κ) {x : sV} {v : Value} {n j : Nat} (hx : sRep ρ ads ex x v) (h : sKx κ.2.1 x n = some j) : ∃ i : Int32, v = .int i ∧ vp_in i n ∧ i.toNatClampNeg = j ∧ j < n := by
  have hx' := sN_ok hs.1 hx
  unfold sKx at h
  generalize sN κ.2.1 x = x' at h hx'
  split at h
  · rename_i z
    split at h
    · rename_i hz
      cases h
      simp only [sRep] at hx'
      subst hx'
      obtain ⟨h1, h2, h3⟩ := hz
      have e : (Int32.ofInt z).toInt = z := Int32.toInt_ofInt_of_le (by omega) (by omega)
      refine ⟨_, rfl, vp_in_iff.mpr (by rw [e]; exact ⟨h1, h2⟩), ?_, by omega⟩
      show (Int32.ofInt z).toInt.toNat = z.toNat
      rw [e]
    · cases h
  · cases h
theorem sGetF_ok (hx : p.tables.exec = Jvm.exec) (hb : c.code = cc) (hts : ∀ w ∈ sB, w.before args s = true) (hown : s.vm.findClass own = some m.cls) (hc : sCtx sc L ex g n0 s) (hs : sCok ρ κ) (hG : ∀ f ∈ G, sWf (sAc ws) L sc ρ f) (hpt : sPt ρ ex g (fun q => n0 ≤ q) wd ws H s.heap locs) (hS : sA2 (sRep ρ (ws.map Prod.fst) ex) st vs)
    {i : Nat} (hd : decode cc pc = .ok (.getfield i, n)) (he : sEntH own mn (.getfield i) ax = true) (h : sGetF κ G wd ax st = some (n, os, dc, ds)) (k : sGo p l e R s m args below meth c Q ls ρ ex g n0 L sc ws os (cells + dc) (slots + ds) (pc + n)) : W p l e R s m args below meth c H locs cells slots Q (F0 m pc ls vs) := by
  unfold sGetF at h
  split at h
  · rename_i ci kk pos r t
    split at h
    · rename_i cj fs ho
      split at h
      · rename_i hcj
        subst hcj
        split at h
        · rename_i x hxv
          cases h
          simp only [sEntH] at he
          split at he
          · rename_i q hq
            simp only [Bool.and_eq_true, decide_eq_true_eq] at he
            obtain ⟨hkN, hat⟩ := he
            obtain ⟨C, T, N⟩ := q
            obtain ⟨a, vals, hws, hr⟩ := sObj_ok hpt.1 ho
            obtain ⟨v, hv, hrv⟩ := sA2_get _ _ _ _ hr hxv
            obtain ⟨v0, rest, rfl, h0, hS1⟩ := sA2_cons hS
            have e0 := sRef h0 hws
            subst e0
            obtain ⟨ty, -, -, hin, -⟩ := sCls _ _ hq
            exact va_get hx hb hts hin hown hc.1 hpt.2.1 r.toNat hws hq kk hkN (hts _ (sAt_ok hat)) (fun _ z => z) hv hd (k _ List.mem_cons_self ρ ws H locs _ List.prefix_rfl List.prefix_rfl hs hG hpt ⟨hrv, hS1⟩)
          · cases he
        · cases h
      · cases h
    · cases h
  · rename_i w pos j t
    split at h
    · rename_i hj
      cases h
      obtain ⟨v0, rest, rfl, h0, hS1⟩ := sA2_cons hS
      simp only [sRep] at h0
      subst h0
      have he2 : sAt pos (.fieldLink own i "java/lang/String" (if w = 0 then "value" else "coder") (if w = 0 then "[B" else "B")) = true := he
      obtain ⟨nn, hn⟩ : ∃ nn, sSln[j.toNat - 1]? = some nn := ⟨_, List.getElem?_eq_getElem (by show j.toNat - 1 < 50; omega)⟩
      obtain ⟨-, g2, g3, -⟩ := hc.2.2.2.2.2.2.2.2.2.2.2.2.1 _ _ hn
      rw [show j.toNat - 1 + 1 = j.toNat by omega] at g2 g3
      have k' := k _ List.mem_cons_self ρ ws H locs ((if w = 0 then .ref (ex (j.toNat - 1 + 1000)) else .int 0) :: rest) List.prefix_rfl List.prefix_rfl hs hG hpt ⟨by
        by_cases e0 : w = 0
        · rw [if_pos e0, if_pos e0]
          show Value.ref _ = Value.ref (ex (j + 999).toNat)
          rw [show (j + 999).toNat = j.toNat - 1 + 1000 by omega]
        · rw [if_neg e0, if_neg e0]
          rfl, hS1⟩
      by_cases e0 : w = 0
      · rw [if_pos e0, if_pos e0] at he2
        rw [if_pos e0] at k'
        exact vk_getf hx hb g3 hpt.2.2.2 hown (hts _ (sAt_ok he2)) (fun _ z => z) hd k'
      · rw [if_neg e0, if_neg e0] at he2
        rw [if_neg e0] at k'
        exact vk_getf hx hb g2 hpt.2.2.2 hown (hts _ (sAt_ok he2)) (fun _ z => z) hd k'
    · cases h
  · cases h
theorem sPutF_ok (hx : p.tables.exec = Jvm.exec) (hb : c.code = cc) (hts : ∀ w ∈ sB, w.before args s = true) (hown : s.vm.findClass own = some m.cls) (hmn : meth.name = mn) (hK : va_K g.1 vwCl (sTy g) s) (hs : sCok ρ κ) (hG : ∀ f ∈ G, sWf (sAc ws) L sc ρ f) (hpt : sPt ρ ex g (fun q => n0 ≤ q) wd ws H s.heap locs) (hS : sA2 (sRep ρ (ws.map Prod.fst) ex) st vs)
    {i : Nat} (hd : decode cc pc = .ok (.putfield i, n)) (he : sEntH own mn (.putfield i) ax = true) (h : sPutF κ G wd ax st = some (n, os, dc, ds)) (k : sGo p l e R s m args below meth c Q ls ρ ex g n0 L sc ws os (cells + dc) (slots + ds) (pc + n)) : W p l e R s m args below meth c H locs cells slots Q (F0 m pc ls vs) := by
  unfold sPutF at h
  split at h
  · rename_i ci kk pos tc x r t
    split at h
    · rename_i cj fs ho
      split at h
      · rename_i hcj
        obtain ⟨rfl, hkl, hfit⟩ := hcj
        cases h
        simp only [sEntH] at he
        split at he
        · rename_i q hq
          simp only [Bool.and_eq_true, decide_eq_true_eq] at he
          obtain ⟨hkN, hat, hpar, hfin⟩ := he
          obtain ⟨C, T, N⟩ := q
          split at hpar
          · rename_i fty hpf
            obtain ⟨a, vals, hws, hr⟩ := sObj_ok hpt.1 ho
            obtain ⟨v, vs1, rfl, hxv, hS1⟩ := sA2_cons hS
            obtain ⟨v0, rest, rfl, h0, hS2⟩ := sA2_cons hS1
            have e0 := sRef h0 hws
            subst e0
            have hxn := sN_ok hs.1 hxv
            obtain ⟨hn, hf⟩ := sFit_ok hs.1 hpar hfit hxn
            obtain ⟨ty, hty, hnm, hin, -⟩ := sCls _ _ hq
            have hlen := sA2_len _ _ hr
            have go : ∀ (H1 : Heap) (locs1 : List Loc), va_P g.1 vwCl (ws.set r.toNat (a, .inr (cj, vals.set kk v))) H1 → va_D (fun q => n0 ≤ q) (ws.set r.toNat (a, .inr (cj, vals.set kk v))) → va_S (fun q => n0 ≤ q) s.heap H1 locs1 → W p l e R s m args below meth c H1 locs1 cells slots Q (F0 m (pc + 3) ls rest) := fun H1 locs1 q1 q2 q3 =>
              k _ List.mem_cons_self ρ _ H1 locs1 _ List.prefix_rfl (by rw [sMapSet hws]; exact List.prefix_rfl) hs (sWf_same hG (fun j => sAc_obj hws j)) ⟨sRW_set hpt.1 hws (e := .inr (cj, vals.set kk v)) (show sRepC _ _ _ _ (.inl (cj, fs.set kk (sN κ.2.1 x))) (.inr (cj, vals.set kk v)) from ⟨rfl, sA2_set _ _ _ _ _ hr hxn⟩), q1, q2, q3⟩ (by rw [sMapSet hws]; exact hS2)
            cases hF : (T kk).2.2.2 with
            | false => exact va_put hx hb hts hin ty hty hnm hown hK hpt.2.1 hpt.2.2.1 hpt.2.2.2 r.toNat hws hq kk hkN (hts _ (sAt_ok hat)) (fun _ z => z) hF hpf hn hf (by omega) hd go
            | true =>
              simp only [hF, Bool.not_true, Bool.false_or, Bool.and_eq_true, decide_eq_true_eq] at hfin
              exact va_putF hx hb hts hin ty hty hnm hown hK hpt.2.1 hpt.2.2.1 hpt.2.2.2 r.toNat hws hq kk hkN (hts _ (sAt_ok hat)) (fun _ z => z) hF (hmn.trans hfin.1) hfin.2 hpf hn hf (by omega) hd go
          · cases hpar
        · cases he
      · cases h
    · cases h
  · cases h
theorem sLen_ok (hx : p.tables.exec = Jvm.exec) (hb : c.code = cc) (hc : sCtx sc L ex g n0 s) (hs : sCok ρ κ) (hG : ∀ f ∈ G, sWf (sAc ws) L sc ρ f) (hpt : sPt ρ ex g (fun q => n0 ≤ q) wd ws H s.heap locs) (hS : sA2 (sRep ρ (ws.map Prod.fst) ex) st vs)
    (hd : decode cc pc = .ok (.arraylength, n)) (h : sLen κ G wd st = some (n, os, dc, ds)) (k : sGo p l e R s m args below meth c Q ls ρ ex g n0 L sc ws os (cells + dc) (slots + ds) (pc + n)) : W p l e R s m args below meth c H locs cells slots Q (F0 m pc ls vs) := by
  unfold sLen at h
  simp only [fAt_eq] at h
  split at h
  · rename_i r t
    split at h
    · rename_i tg nn ov hq
      cases h
      obtain ⟨a, e0, hws, -, hr⟩ := sRW_get hpt.1 hq
      obtain ⟨v0, rest, rfl, h0, hS1⟩ := sA2_cons hS
      have e1 := sRef h0 hws
      subst e1
      have k' := k _ List.mem_cons_self ρ ws H locs (.int (Int32.ofInt (nn : Int)) :: rest) List.prefix_rfl List.prefix_rfl hs hG hpt ⟨rfl, hS1⟩
      rw [Int32.ofInt_eq_ofNat] at k'
      cases e0 with
      | inr o => simp [sRepC] at hr
      | inl x =>
        obtain ⟨cA, n', f⟩ := x
        unfold sRepC at hr
        split at hr
        · rename_i e2; cases e2
        · rename_i e2 e3
          cases e2; cases e3
          obtain ⟨rfl, rfl, -⟩ := hr
          exact va_alen hx hb hc.1 hpt.2.1 r.toNat 0 hws rfl rfl hd k'
        · rename_i e2 e3
          cases e2; cases e3
          obtain ⟨rfl, rfl, -⟩ := hr
          exact va_alen hx hb hc.1 hpt.2.1 r.toNat 1 hws rfl rfl hd k'
        · rename_i e2 e3
          cases e2; cases e3
          obtain ⟨rfl, rfl, -⟩ := hr
          exact va_alen hx hb hc.1 hpt.2.1 r.toNat 2 hws rfl rfl hd k'
        · rename_i e2 e3
          cases e2; cases e3
          obtain ⟨rfl, rfl, -⟩ := hr
          exact va_alen hx hb hc.1 hpt.2.1 r.toNat 3 hws rfl rfl hd k'
        · rename_i e2 e3
          cases e2; cases e3
          obtain ⟨rfl, rfl, -⟩ := hr
          exact va_alen hx hb hc.1 hpt.2.1 r.toNat 0 hws rfl rfl hd k'
        · rename_i e2 e3
          cases e2; cases e3
          obtain ⟨rfl, rfl, -⟩ := hr
          exact va_alen hx hb hc.1 hpt.2.1 r.toNat 1 hws rfl rfl hd k'
        · rename_i e2 e3
          cases e2; cases e3
          obtain ⟨rfl, rfl⟩ := hr
          exact va_alen hx hb hc.1 hpt.2.1 r.toNat 2 hws rfl rfl hd k'
        · exact hr.elim
    · cases h
  · rename_i j t
    split at h
    · rename_i hj
      split at h
      · rename_i nn hn
        cases h
        obtain ⟨v0, rest, rfl, h0, hS1⟩ := sA2_cons hS
        simp only [sRep] at h0
        subst h0
        obtain ⟨-, -, -, f, g4, -⟩ := hc.2.2.2.2.2.2.2.2.2.2.2.2.1 _ _ hn
        rw [show j.toNat - 1000 + 1000 = j.toNat by omega] at g4
        have k' := k _ List.mem_cons_self ρ ws H locs (.int (Int32.ofInt (nn : Int)) :: rest) List.prefix_rfl List.prefix_rfl hs hG hpt ⟨rfl, hS1⟩
        rw [Int32.ofInt_eq_ofNat] at k'
        exact va_tlen hx hb g4 hpt.2.2.2 rfl hd k'
      · cases h
    · cases h
  · cases h
/-! ### which row a cell is -/
theorem sInv0 {ads : List Nat} {nn : Nat} {ov : List (Nat × sV)} {e0 : va_E} (h : sRepC ρ ads ex g (.inr (0, nn, ov)) e0) : ∃ f : Nat → Int32, e0 = .inl (g.2.1, nn, .inl f) ∧ ∀ j, j < nn → sRep ρ ads ex (sLook (0, 0) ov j) (.int (f j)) := by
  cases e0 with
  | inr o => simp [sRepC] at h
  | inl x =>
    obtain ⟨cA, n', f⟩ := x
    cases f with
    | inl f => obtain ⟨rfl, rfl, h⟩ := h; exact ⟨f, rfl, h⟩
    | inr f => simp [sRepC] at h
theorem sInv3 {ads : List Nat} {nn : Nat} {ov : List (Nat × sV)} {e0 : va_E} (h : sRepC ρ ads ex g (.inr (3, nn, ov)) e0) : ∃ f : Nat → Option Nat, e0 = .inl (g.2.2.2.2, nn, .inr (.inr (.inr (.inr f)))) ∧ ∀ j, j < nn → sRep ρ ads ex (sLook (2, 0) ov j) (va_rf (f j)) := by
  cases e0 with
  | inr o => simp [sRepC] at h
  | inl x =>
    obtain ⟨cA, n', f⟩ := x
    match f, h with
    | .inl f, h => simp [sRepC] at h
    | .inr (.inl f), h => simp [sRepC] at h
    | .inr (.inr (.inl f)), h => simp [sRepC] at h
    | .inr (.inr (.inr (.inl f))), h => simp [sRepC] at h
    | .inr (.inr (.inr (.inr f))), h => obtain ⟨rfl, rfl, h⟩ := h; exact ⟨f, rfl, h⟩
theorem sInv4 {ads : List Nat} {nn i : Nat} {z : sV} {e0 : va_E} (h : sRepC ρ ads ex g (.inr (4, nn, [(i, z)])) e0) : ∃ (f : Nat → Int32) (S : List (Int × Int)), e0 = .inl (g.2.1, nn, .inl f) ∧ sSpec[i]? = some S ∧ ∀ j, j < nn → ∃ lo hi, S[j % S.length]? = some (lo, hi) ∧ lo ≤ (f j).toInt ∧ (f j).toInt ≤ hi := by
  cases e0 with
  | inr o => simp [sRepC] at h
  | inl x =>
    obtain ⟨cA, n', f⟩ := x
    cases f with
    | inl f => obtain ⟨rfl, rfl, S, h1, h2⟩ := h; exact ⟨f, S, rfl, h1, h2⟩
    | inr f => simp [sRepC] at h
theorem sInv5 {ads : List Nat} {nn : Nat} {ov : List (Nat × sV)} {e0 : va_E} (h : sRepC ρ ads ex g (.inr (5, nn, ov)) e0) : ∃ f : Nat → Int32, e0 = .inl (g.2.2.1, nn, .inl f) ∧ ∀ j, j < nn → -128 ≤ (f j).toInt ∧ (f j).toInt ≤ 127 := by
  cases e0 with
  | inr o => simp [sRepC] at h
  | inl x =>
    obtain ⟨cA, n', f⟩ := x
    cases f with
    | inl f => obtain ⟨rfl, rfl, h⟩ := h; exact ⟨f, rfl, h⟩
    | inr f => simp [sRepC] at h
theorem sInv6 {ads : List Nat} {nn : Nat} {ov : List (Nat × sV)} {e0 : va_E} (h : sRepC ρ ads ex g (.inr (6, nn, ov)) e0) : ∃ f : Nat → Int64, e0 = .inl (g.2.2.2.1, nn, .inr (.inl f)) := by
  cases e0 with
  | inr o => simp [sRepC] at h
  | inl x =>
    obtain ⟨cA, n', f⟩ := x
    match f, h with
    | .inl f, h => simp [sRepC] at h
    | .inr (.inl f), h => obtain ⟨rfl, rfl⟩ := h; exact ⟨f, rfl⟩
    | .inr (.inr f), h => simp [sRepC] at h
theorem sInv2 {ads : List Nat} {nn : Nat} {ov : List (Nat × sV)} {e0 : va_E} (h : sRepC ρ ads ex g (.inr (2, nn, ov)) e0) : ∃ f : Nat → Int64, e0 = .inl (g.2.2.2.1, nn, .inr (.inl f)) ∧ ∀ j, j < nn → sRep ρ ads ex (sLook (1, 0) ov j) (.long (f j)) := by
  cases e0 with
  | inr o => simp [sRepC] at h
  | inl x =>
    obtain ⟨cA, n', f⟩ := x
    match f, h with
    | .inl f, h => simp [sRepC] at h
    | .inr (.inl f), h => obtain ⟨rfl, rfl, h⟩ := h; exact ⟨f, rfl, h⟩
    | .inr (.inr f), h => simp [sRepC] at h
theorem sSfd_mem {x y : sV} : ∀ G : List sFc, sSfd x G = some y → (21, [x, y], []) ∈ G ∧ sK y = 0
  | [], h => by cases h
  | f :: t, h => by
    unfold sSfd at h
    split at h
    · cases h
    · rename_i x' y' ps t' e
      cases e
      split at h
      · rename_i hc
        obtain ⟨rfl, hk, rfl⟩ := hc
        cases h
        exact ⟨List.mem_cons_self, hk⟩
      · obtain ⟨h1, h2⟩ := sSfd_mem _ h
        exact ⟨List.mem_cons_of_mem _ h1, h2⟩
    · rename_i e
      cases e
      obtain ⟨h1, h2⟩ := sSfd_mem _ h
      exact ⟨List.mem_cons_of_mem _ h1, h2⟩
/-- a load's answers go on -/
theorem sLds_go {r : List sLr} {t : List sV} {rest : List Value} {z : Int32} (hpt : sPt ρ ex g (fun q => n0 ≤ q) wd ws H s.heap locs) (hS : sA2 (sRep ρ (ws.map Prod.fst) ex) t rest) (h : ∃ q ∈ r, sLok (sAc ws) L sc ρ z q) {cells' slots' pc' : Nat} (k : sGo p l e R s m args below meth c Q ls ρ ex g n0 L sc ws (sLds r wd t) cells' slots' pc') : W p l e R s m args below meth c H locs cells' slots' Q (F0 m pc' ls (.int z :: rest)) := by
  obtain ⟨q, hq, ρ', r1, r2, r3, r4, r5⟩ := h
  refine k _ (List.mem_map.mpr ⟨q, hq, rfl⟩) ρ' ws H locs _ r1 List.prefix_rfl r2 r3 ⟨sRW_more r1 hpt.1, hpt.2⟩ ⟨?_, sStM r1 List.prefix_rfl hS⟩
  have := sRep_of_int (ads := ws.map Prod.fst) (ex := ex) r4 r5
  rw [Int32.ofInt_toInt] at this
  exact this
theorem sIald_ok (hx : p.tables.exec = Jvm.exec) (hb : c.code = cc) (hc : sCtx sc L ex g n0 s) (hs : sCok ρ κ) (hG : ∀ f ∈ G, sWf (sAc ws) L sc ρ f) (hpt : sPt ρ ex g (fun q => n0 ≤ q) wd ws H s.heap locs) (hS : sA2 (sRep ρ (ws.map Prod.fst) ex) st vs)
    (hd : decode cc pc = .ok (.iaload, n)) (h : sIald κ G wd st = some (n, os, dc, ds)) (k : sGo p l e R s m args below meth c Q ls ρ ex g n0 L sc ws os (cells + dc) (slots + ds) (pc + n)) : W p l e R s m args below meth c H locs cells slots Q (F0 m pc ls vs) := by
  unfold sIald at h
  simp only [fAt_eq] at h
  split at h
  · rename_i x r t
    obtain ⟨v, vs1, rfl, hxv, hS1⟩ := sA2_cons hS
    obtain ⟨v0, rest, rfl, h0, hS2⟩ := sA2_cons hS1
    split at h
    · rename_i nn ov hq
      obtain ⟨a, e0, hws, -, hr⟩ := sRW_get hpt.1 hq
      obtain ⟨f, rfl, hf⟩ := sInv0 hr
      have e1 := sRef h0 hws
      subst e1
      split at h
      · rename_i hix
        split at h
        · rename_i j hj
          cases h
          obtain ⟨i, rfl, hin, hcl, hlt⟩ := sKx_ok hs hxv hj
          exact va_iald hx hb hc.1 hpt.2.1 r.toNat 0 hws rfl hin hd (k _ List.mem_cons_self ρ ws H locs _ List.prefix_rfl List.prefix_rfl hs hG hpt ⟨by rw [hcl]; exact hf j hlt, hS2⟩)
        · obtain ⟨i, j, rfl, hin, hcl, hlt, -⟩ := sIx_ok hs hxv hix
          obtain ⟨ρ', r1, r2, r3, z, r4, r5⟩ := sAny_res hs (f j)
          generalize sAny κ = qq at h r2 r3 r4
          obtain ⟨κ1, y⟩ := qq
          cases h
          refine va_iald hx hb hc.1 hpt.2.1 r.toNat 0 hws rfl hin hd (k _ List.mem_cons_self ρ' ws H locs _ r1 List.prefix_rfl r2 (fun f hf => sWf_mono r1 (hG f hf)) ⟨sRW_more r1 hpt.1, hpt.2⟩ ⟨?_, sStM r1 List.prefix_rfl hS2⟩)
          rw [hcl, ← r5]
          exact sRep_of_int r3 r4
      · cases h
    · rename_i nn i0 z0 hq
      obtain ⟨a, e0, hws, -, hr⟩ := sRW_get hpt.1 hq
      obtain ⟨f, S, rfl, hS0, hf⟩ := sInv4 hr
      have e1 := sRef h0 hws
      subst e1
      split at h
      · rename_i hix
        split at h
        · rename_i lr hl
          cases h
          obtain ⟨i, j, rfl, hin, hcl, hlt, hj⟩ := sIx_ok hs hxv hix.1
          refine va_iald hx hb hc.1 hpt.2.1 r.toNat 0 hws rfl hin hd ?_
          rw [hcl]
          have hA : sAc ws r.toNat = f := sAc_at hws
          refine sLds_go hpt hS2 ?_ k
          rw [← hA]
          refine sLdB_ok (n := nn) hs hG (sN_ev hs.1 hj) (fun hne => ?_) hS0 (by rw [hA]; exact hf j hlt) hl
          rcases hix.2 with q | q
          · exact absurd q hne
          · omega
        · cases h
      · cases h
    · cases h
  · rename_i x t
    obtain ⟨v, vs1, rfl, hxv, hS1⟩ := sA2_cons hS
    obtain ⟨v0, rest, rfl, h0, hS2⟩ := sA2_cons hS1
    split at h
    · rename_i hk
      split at h
      · rename_i y hy
        cases h
        obtain ⟨h1, h2⟩ := sSfd_mem G hy
        obtain ⟨u, w, g1, g2, g3, g4, g5⟩ := hG _ h1
        obtain ⟨u', rfl, hu'⟩ := sRep_int hxv hk.1
        obtain ⟨qr, hqr⟩ := Option.isSome_iff_exists.mp hk.2
        obtain ⟨-, -, iu⟩ := sRg_ev (lo := qr.1) (hi := qr.2) hs.1 hu' hqr
        have e1 := sN_ev hs.1 hu'
        rw [g1] at e1
        cases e1
        simp only [sRep] at h0
        subst h0
        obtain ⟨-, -, -, -, -, -, -, hX, hb1, hb2, -⟩ := hc
        have eu := sI_toInt iu
        refine va_sld hx hb hX (Nat.lt_of_lt_of_le hb1 hb2) (A := fun q => n0 ≤ q) (Nat.not_le.mpr hb1) hpt.2.2.2 (vp_in_iff.mpr (by rw [eu]; omega)) hd (k _ List.mem_cons_self ρ ws H locs _ List.prefix_rfl List.prefix_rfl hs hG hpt ⟨?_, hS2⟩)
        have q := sRep_of_int (ads := ws.map Prod.fst) (ex := ex) h2 g2
        rw [← g5, Int32.ofInt_toInt] at q
        have ec : (Int32.ofInt u).toNatClampNeg = u.toNat := by
          show (Int32.ofInt u).toInt.toNat = u.toNat
          rw [eu]
        rw [ec]
        exact q
      · cases h
    · cases h
  · cases h
end SHW
end
