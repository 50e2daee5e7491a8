/-! ===== instructions on cells, sound ===== -/
section SHW
variable {p : Program} {l : Launch} {e : Env} {R : Room} {s : State} {m : MethodId} {args : Array Value} {below : List Frame} {meth : Method} {c : Code} {H : Heap} {locs : List Loc} {cells slots : Nat} {Q : State → Prop}
variable {cc : ByteArray} {pc : Nat} {ls : Array Slot} {ρ : Nat → Int32} {ex : Nat → Nat} {env : sE} {g : sG} {n0 : Nat} {wd wd' : List sC} {ws : va_W} {st st' : List sV} {vs : List Value} {n dc ds : Nat} {own mn : String} {ax : List Nat}
/-- how a step over cells goes on -/
def sGo (p : Program) (l : Launch) (e : Env) (R : Room) (s : State) (m : MethodId) (args : Array Value) (below : List Frame) (meth : Method) (c : Code) (Q : State → Prop) (ls : Array Slot) (ρ : Nat → Int32) (ex : Nat → Nat) (g : sG) (n0 : Nat) (ws : va_W) (wd' : List sC) (st' : List sV) (cells' slots' pc' : Nat) : Prop :=
  ∀ (ws' : va_W) (H' : Heap) (locs' : List Loc) (vs' : List Value), ws.map Prod.fst <+: ws'.map Prod.fst → sPt ρ ex g (fun q => n0 ≤ q) wd' ws' H' s.heap locs' → sA2 (sRep ρ (ws'.map Prod.fst) ex) st' vs' → W p l e R s m args below meth c H' locs' cells' slots' Q (F0 m pc' ls vs')
theorem sGetF_ok (hx : p.tables.exec = Jvm.exec) (hb : c.code = cc) (hts : ∀ w ∈ sB, w.before args s = true) (hown : s.vm.findClass own = some m.cls) (hK : va_K g.1 vwCl (sTy g) s) (hpt : sPt ρ ex g (fun q => n0 ≤ q) wd ws H s.heap locs) (hS : sA2 (sRep ρ (ws.map Prod.fst) ex) st vs)
    {i : Nat} (hd : decode cc pc = .ok (.getfield i, n)) (he : sEntH own mn (.getfield i) ax = true) (h : sGetF wd ax st = some (n, wd', st', dc, ds)) (k : sGo p l e R s m args below meth c Q ls ρ ex g n0 ws wd' st' (cells + dc) (slots + ds) (pc + n)) : W p l e R s m args below meth c H locs cells slots Q (F0 m pc ls vs) := by
  unfold sGetF at h
  split at h
  · rename_i ci kk pos r t
    split at h
    · rename_i cj fs ho
      split at h
      · rename_i hcj
        subst hcj
        obtain ⟨x, hxv, hxe⟩ := Option.map_eq_some_iff.mp h
        cases hxe
        simp only [sEntH] at he
        split at he
        · rename_i q hq
          simp only [Bool.and_eq_true, decide_eq_true_eq] at he
          obtain ⟨hkN, hat⟩ := he
          obtain ⟨C, T, N⟩ := q
          obtain ⟨a, vals, hws, hr⟩ := sObj_ok hpt.1 ho
          obtain ⟨v, hv, hrv⟩ := sA2_get _ _ _ _ hr hxv
          obtain ⟨v0, rest, rfl, h0, hS1⟩ := sA2_cons hS
          have e0 := sRef h0 hws
          subst e0
          obtain ⟨ty, -, -, hin, -⟩ := sCls _ _ hq
          exact va_get hx hb hts hin hown hK hpt.2.1 r.toNat hws hq kk hkN (hts _ (sAt_ok hat)) (fun _ z => z) hv hd (k ws H locs _ List.prefix_rfl hpt ⟨hrv, hS1⟩)
        · cases he
      · cases h
    · cases h
  · cases h
theorem sPutF_ok (hx : p.tables.exec = Jvm.exec) (hb : c.code = cc) (hts : ∀ w ∈ sB, w.before args s = true) (hown : s.vm.findClass own = some m.cls) (hmn : meth.name = mn) (hs : sSat ρ env) (hK : va_K g.1 vwCl (sTy g) s) (hpt : sPt ρ ex g (fun q => n0 ≤ q) wd ws H s.heap locs) (hS : sA2 (sRep ρ (ws.map Prod.fst) ex) st vs)
    {i : Nat} (hd : decode cc pc = .ok (.putfield i, n)) (he : sEntH own mn (.putfield i) ax = true) (h : sPutF env wd ax st = some (n, wd', st', dc, ds)) (k : sGo p l e R s m args below meth c Q ls ρ ex g n0 ws wd' st' (cells + dc) (slots + ds) (pc + n)) : W p l e R s m args below meth c H locs cells slots Q (F0 m pc ls vs) := by
  unfold sPutF at h
  split at h
  · rename_i ci kk pos tc x r t
    split at h
    · rename_i cj fs ho
      split at h
      · rename_i hcj
        obtain ⟨rfl, hkl, hfit⟩ := hcj
        cases h
        simp only [sEntH] at he
        split at he
        · rename_i q hq
          simp only [Bool.and_eq_true, decide_eq_true_eq] at he
          obtain ⟨hkN, hat, hpar, hfin⟩ := he
          obtain ⟨C, T, N⟩ := q
          split at hpar
          · rename_i fty hpf
            obtain ⟨a, vals, hws, hr⟩ := sObj_ok hpt.1 ho
            obtain ⟨v, vs1, rfl, hxv, hS1⟩ := sA2_cons hS
            obtain ⟨v0, rest, rfl, h0, hS2⟩ := sA2_cons hS1
            have e0 := sRef h0 hws
            subst e0
            have hxn := sN_ok hs hxv
            obtain ⟨hn, hf⟩ := sFit_ok hpar hfit hxn
            obtain ⟨ty, hty, hnm, hin, -⟩ := sCls _ _ hq
            have hlen := sA2_len _ _ hr
            have go : ∀ (H1 : Heap) (locs1 : List Loc), va_P g.1 vwCl (ws.set r.toNat (a, .inr (cj, vals.set kk v))) H1 → va_D (fun q => n0 ≤ q) (ws.set r.toNat (a, .inr (cj, vals.set kk v))) → va_S (fun q => n0 ≤ q) s.heap H1 locs1 → W p l e R s m args below meth c H1 locs1 cells slots Q (F0 m (pc + 3) ls rest) := fun H1 locs1 q1 q2 q3 =>
              k _ H1 locs1 _ (by rw [sMapSet hws]; exact List.prefix_rfl) ⟨sRW_set hpt.1 hws (e := .inr (cj, vals.set kk v)) (show sRepC _ _ _ _ (.inl (cj, fs.set kk (sN env x))) (.inr (cj, vals.set kk v)) from ⟨rfl, sA2_set _ _ _ _ _ hr hxn⟩), q1, q2, q3⟩ (by rw [sMapSet hws]; exact hS2)
            cases hF : (T kk).2.2.2 with
            | false => exact va_put hx hb hts hin ty hty hnm hown hK hpt.2.1 hpt.2.2.1 hpt.2.2.2 r.toNat hws hq kk hkN (hts _ (sAt_ok hat)) (fun _ z => z) hF hpf hn hf (by omega) hd go
            | true =>
              simp only [hF, Bool.not_true, Bool.false_or, Bool.and_eq_true, decide_eq_true_eq] at hfin
              exact va_putF hx hb hts hin ty hty hnm hown hK hpt.2.1 hpt.2.2.1 hpt.2.2.2 r.toNat hws hq kk hkN (hts _ (sAt_ok hat)) (fun _ z => z) hF (hmn.trans hfin.1) hfin.2 hpf hn hf (by omega) hd go
          · cases hpar
        · cases he
      · cases h
    · cases h
  · cases h
theorem sLen_ok (hx : p.tables.exec = Jvm.exec) (hb : c.code = cc) (hc : sCtx ρ ex g n0 s) (hpt : sPt ρ ex g (fun q => n0 ≤ q) wd ws H s.heap locs) (hS : sA2 (sRep ρ (ws.map Prod.fst) ex) st vs)
    (hd : decode cc pc = .ok (.arraylength, n)) (h : sLen wd st = some (n, wd', st', dc, ds)) (k : sGo p l e R s m args below meth c Q ls ρ ex g n0 ws wd' st' (cells + dc) (slots + ds) (pc + n)) : W p l e R s m args below meth c H locs cells slots Q (F0 m pc ls vs) := by
  have hK := hc.1
  unfold sLen at h
  split at h
  · rename_i r t
    split at h
    · rename_i tg nn ov hq
      cases h
      obtain ⟨a, e0, hws, -, hr⟩ := sRW_get hpt.1 hq
      obtain ⟨v0, rest, rfl, h0, hS1⟩ := sA2_cons hS
      have e1 := sRef h0 hws
      subst e1
      have k' := k ws H locs (.int (Int32.ofInt (nn : Int)) :: rest) List.prefix_rfl hpt ⟨rfl, hS1⟩
      rw [Int32.ofInt_eq_ofNat] at k'
      cases e0 with
      | inr o => simp [sRepC] at hr
      | inl x =>
        obtain ⟨cA, n', f⟩ := x
        unfold sRepC at hr
        split at hr
        · rename_i e2; cases e2
        · rename_i e2 e3
          cases e2; cases e3
          obtain ⟨rfl, rfl, -⟩ := hr
          exact va_alen hx hb hK hpt.2.1 r.toNat 0 hws rfl rfl hd k'
        · rename_i e2 e3
          cases e2; cases e3
          obtain ⟨rfl, rfl, -⟩ := hr
          exact va_alen hx hb hK hpt.2.1 r.toNat 1 hws rfl rfl hd k'
        · rename_i e2 e3
          cases e2; cases e3
          obtain ⟨rfl, rfl, -⟩ := hr
          exact va_alen hx hb hK hpt.2.1 r.toNat 2 hws rfl rfl hd k'
        · rename_i e2 e3
          cases e2; cases e3
          obtain ⟨rfl, rfl⟩ := hr
          exact va_alen hx hb hK hpt.2.1 r.toNat 3 hws rfl rfl hd k'
        · exact hr.elim
    · cases h
  · rename_i t
    cases h
    obtain ⟨v0, rest, rfl, h0, hS1⟩ := sA2_cons hS
    simp only [sRep] at h0
    subst h0
    obtain ⟨L, hX, hL⟩ := hc.2.2.2.2.2.2.2.1
    obtain ⟨hb1, hb2, -⟩ := hc.2.2.2.2.2.2.2.2
    refine va_slen hx hb hX (Nat.lt_of_lt_of_le hb1 hb2) (A := fun q => n0 ≤ q) (Nat.not_le.mpr hb1) hpt.2.2.2 hd (k ws H locs _ List.prefix_rfl hpt ⟨?_, hS1⟩)
    show Value.int _ = Value.int _
    congr 1
    rw [← Int32.ofInt_eq_ofNat, ← hL, Int32.ofInt_toInt]
    rfl
  · cases h
theorem sInv0 {ads : List Nat} {nn : Nat} {ov : List (Nat × sV)} {e0 : va_E} (h : sRepC ρ ads ex g (.inr (0, nn, ov)) e0) : ∃ f : Nat → Int32, e0 = .inl (g.2.1, nn, .inl f) ∧ ∀ j, j < nn → sRep ρ ads ex (sLook (0, 0) ov j) (.int (f j)) := by
  cases e0 with
  | inr o => simp [sRepC] at h
  | inl x =>
    obtain ⟨cA, n', f⟩ := x
    cases f with
    | inl f => obtain ⟨rfl, rfl, h⟩ := h; exact ⟨f, rfl, h⟩
    | inr f => simp [sRepC] at h
theorem sInv1 {ads : List Nat} {nn : Nat} {ov : List (Nat × sV)} {e0 : va_E} (h : sRepC ρ ads ex g (.inr (1, nn, ov)) e0) : ∃ f : Nat → Int32, e0 = .inl (g.2.2.1, nn, .inl f) ∧ ∀ j, j < nn → sRep ρ ads ex (sLook (0, 0) ov j) (.int (f j)) := by
  cases e0 with
  | inr o => simp [sRepC] at h
  | inl x =>
    obtain ⟨cA, n', f⟩ := x
    cases f with
    | inl f => obtain ⟨rfl, rfl, h⟩ := h; exact ⟨f, rfl, h⟩
    | inr f => simp [sRepC] at h
theorem sInv2 {ads : List Nat} {nn : Nat} {ov : List (Nat × sV)} {e0 : va_E} (h : sRepC ρ ads ex g (.inr (2, nn, ov)) e0) : ∃ f : Nat → Int64, e0 = .inl (g.2.2.2.1, nn, .inr (.inl f)) ∧ ∀ j, j < nn → sRep ρ ads ex (sLook (1, 0) ov j) (.long (f j)) := by
  cases e0 with
  | inr o => simp [sRepC] at h
  | inl x =>
    obtain ⟨cA, n', f⟩ := x
    match f, h with
    | .inl f, h => simp [sRepC] at h
    | .inr (.inl f), h => obtain ⟨rfl, rfl, h⟩ := h; exact ⟨f, rfl, h⟩
    | .inr (.inr f), h => simp [sRepC] at h
theorem sInv3 {ads : List Nat} {nn : Nat} {ov : List (Nat × sV)} {e0 : va_E} (h : sRepC ρ ads ex g (.inr (3, nn, ov)) e0) : ∃ f : Nat → Option Nat, e0 = .inl (g.2.2.2.2, nn, .inr (.inr (.inr (.inr f)))) := by
  cases e0 with
  | inr o => simp [sRepC] at h
  | inl x =>
    obtain ⟨cA, n', f⟩ := x
    match f, h with
    | .inl f, h => simp [sRepC] at h
    | .inr (.inl f), h => simp [sRepC] at h
    | .inr (.inr (.inl f)), h => simp [sRepC] at h
    | .inr (.inr (.inr (.inl f))), h => simp [sRepC] at h
    | .inr (.inr (.inr (.inr f))), h => obtain ⟨rfl, rfl⟩ := h; exact ⟨f, rfl⟩
theorem sAld_inv {tg : Nat} {d : sV} (h : sAld env wd st tg d = some (n, wd', st', dc, ds)) :
    (∃ (x : sV) (r : Int) (t : List sV) (nn : Nat) (ov : List (Nat × sV)) (j : Nat), st = x :: (3, r) :: t ∧ sRow wd r tg = some (nn, ov) ∧ sIdx env x nn = some j ∧ n = 1 ∧ wd' = wd ∧ st' = sLook d ov j :: t ∧ dc = 0 ∧ ds = 0) ∨
    (tg = 0 ∧ ∃ (x : sV) (t : List sV) (lo hi j : Int), st = x :: (7, 0) :: t ∧ env[7]? = some (lo, hi) ∧ sN env x = (0, j) ∧ 0 ≤ j ∧ j < lo ∧ sI j = true ∧ n = 1 ∧ wd' = wd ∧ st' = (4, j) :: t ∧ dc = 0 ∧ ds = 0) := by
  unfold sAld at h
  split at h
  · rename_i x r t
    split at h
    · rename_i nn ov hr
      obtain ⟨j, hj, he⟩ := Option.map_eq_some_iff.mp h
      cases he
      exact Or.inl ⟨x, r, t, nn, ov, j, rfl, hr, hj, rfl, rfl, rfl, rfl, rfl⟩
    · cases h
  · rename_i x t
    split at h
    · rename_i ht
      split at h
      · rename_i lo hi hl
        split at h
        · rename_i j hj
          split at h
          · rename_i hh
            cases h
            exact Or.inr ⟨ht, x, t, lo, hi, j, rfl, hl, hj, hh.1, hh.2.1, hh.2.2, rfl, rfl, rfl, rfl, rfl⟩
          · cases h
        · cases h
      · cases h
    · cases h
  · cases h
theorem sIald_ok (hx : p.tables.exec = Jvm.exec) (hb : c.code = cc) (hc : sCtx ρ ex g n0 s) (hs : sSat ρ env) (hpt : sPt ρ ex g (fun q => n0 ≤ q) wd ws H s.heap locs) (hS : sA2 (sRep ρ (ws.map Prod.fst) ex) st vs)
    (hd : decode cc pc = .ok (.iaload, n)) (h : sAld env wd st 0 (0, 0) = some (n, wd', st', dc, ds)) (k : sGo p l e R s m args below meth c Q ls ρ ex g n0 ws wd' st' (cells + dc) (slots + ds) (pc + n)) : W p l e R s m args below meth c H locs cells slots Q (F0 m pc ls vs) := by
  rcases sAld_inv h with ⟨x, r, t, nn, ov, j, rfl, hr, hj, rfl, rfl, rfl, rfl, rfl⟩ | ⟨-, x, t, lo, hi, j, rfl, hl, hj, h1, h2, h3, rfl, rfl, rfl, rfl, rfl⟩
  · obtain ⟨v, vs1, rfl, hxv, hS1⟩ := sA2_cons hS
    obtain ⟨v0, rest, rfl, h0, hS2⟩ := sA2_cons hS1
    obtain ⟨a, e0, hws, hc0⟩ := sRow_ok hpt.1 hr
    obtain ⟨f, rfl, hf⟩ := sInv0 hc0
    have e1 := sRef h0 hws
    subst e1
    obtain ⟨i, rfl, hin, hcl, hlt⟩ := sIdx_ok hs hxv hj
    exact va_iald hx hb hc.1 hpt.2.1 r.toNat 0 hws rfl hin hd (k ws H locs _ List.prefix_rfl hpt ⟨by rw [hcl]; exact hf j hlt, hS2⟩)
  · obtain ⟨v, vs1, rfl, hxv, hS1⟩ := sA2_cons hS
    obtain ⟨v0, rest, rfl, h0, hS2⟩ := sA2_cons hS1
    have hxn := sN_ok hs hxv
    rw [hj] at hxn
    simp only [sRep] at h0 hxn
    subst h0; subst hxn
    obtain ⟨L, hX, hL⟩ := hc.2.2.2.2.2.2.2.1
    obtain ⟨hb1, hb2, -⟩ := hc.2.2.2.2.2.2.2.2
    have e7 := (hs 7 lo hi hl).1
    have ej := sI_toInt h3
    refine va_sld hx hb hX (Nat.lt_of_lt_of_le hb1 hb2) (A := fun q => n0 ≤ q) (Nat.not_le.mpr hb1) hpt.2.2.2 (vp_in_iff.mpr (by rw [ej]; omega)) hd (k ws H locs _ List.prefix_rfl hpt ⟨?_, hS2⟩)
    show Value.int _ = Value.int _
    congr 2
    show (Int32.ofInt j).toInt.toNat = j.toNat
    rw [ej]
theorem sBald_ok (hx : p.tables.exec = Jvm.exec) (hb : c.code = cc) (hc : sCtx ρ ex g n0 s) (hs : sSat ρ env) (hpt : sPt ρ ex g (fun q => n0 ≤ q) wd ws H s.heap locs) (hS : sA2 (sRep ρ (ws.map Prod.fst) ex) st vs)
    (hd : decode cc pc = .ok (.baload, n)) (h : sAld env wd st 1 (0, 0) = some (n, wd', st', dc, ds)) (k : sGo p l e R s m args below meth c Q ls ρ ex g n0 ws wd' st' (cells + dc) (slots + ds) (pc + n)) : W p l e R s m args below meth c H locs cells slots Q (F0 m pc ls vs) := by
  rcases sAld_inv h with ⟨x, r, t, nn, ov, j, rfl, hr, hj, rfl, rfl, rfl, rfl, rfl⟩ | ⟨q, -⟩
  · obtain ⟨v, vs1, rfl, hxv, hS1⟩ := sA2_cons hS
    obtain ⟨v0, rest, rfl, h0, hS2⟩ := sA2_cons hS1
    obtain ⟨a, e0, hws, hc0⟩ := sRow_ok hpt.1 hr
    obtain ⟨f, rfl, hf⟩ := sInv1 hc0
    have e1 := sRef h0 hws
    subst e1
    obtain ⟨i, rfl, hin, hcl, hlt⟩ := sIdx_ok hs hxv hj
    exact va_bald hx hb hc.1 hpt.2.1 r.toNat 1 hws rfl hin hd (k ws H locs _ List.prefix_rfl hpt ⟨by rw [hcl]; exact hf j hlt, hS2⟩)
  · cases q
theorem sLald_ok (hx : p.tables.exec = Jvm.exec) (hb : c.code = cc) (hc : sCtx ρ ex g n0 s) (hs : sSat ρ env) (hpt : sPt ρ ex g (fun q => n0 ≤ q) wd ws H s.heap locs) (hS : sA2 (sRep ρ (ws.map Prod.fst) ex) st vs)
    (hd : decode cc pc = .ok (.laload, n)) (h : sAld env wd st 2 (1, 0) = some (n, wd', st', dc, ds)) (k : sGo p l e R s m args below meth c Q ls ρ ex g n0 ws wd' st' (cells + dc) (slots + ds) (pc + n)) : W p l e R s m args below meth c H locs cells slots Q (F0 m pc ls vs) := by
  rcases sAld_inv h with ⟨x, r, t, nn, ov, j, rfl, hr, hj, rfl, rfl, rfl, rfl, rfl⟩ | ⟨q, -⟩
  · obtain ⟨v, vs1, rfl, hxv, hS1⟩ := sA2_cons hS
    obtain ⟨v0, rest, rfl, h0, hS2⟩ := sA2_cons hS1
    obtain ⟨a, e0, hws, hc0⟩ := sRow_ok hpt.1 hr
    obtain ⟨f, rfl, hf⟩ := sInv2 hc0
    have e1 := sRef h0 hws
    subst e1
    obtain ⟨i, rfl, hin, hcl, hlt⟩ := sIdx_ok hs hxv hj
    exact va_lald hx hb hc.1 hpt.2.1 r.toNat 2 hws rfl hin hd (k ws H locs _ List.prefix_rfl hpt ⟨by rw [hcl]; exact hf j hlt, hS2⟩)
  · cases q
theorem sAst_inv {tg kd : Nat} {d : sV} (h : sAst env wd st tg kd d = some (n, wd', st', dc, ds)) :
    ∃ (y x : sV) (r : Int) (t : List sV) (nn : Nat) (ov : List (Nat × sV)) (j : Nat), st = y :: x :: (3, r) :: t ∧ sRow wd r tg = some (nn, ov) ∧ sK y = kd ∧ sIdx env x nn = some j ∧ n = 1 ∧ wd' = wd.set r.toNat (.inr (tg, nn, sASet d ov j (if tg = 1 then sNar env y else sN env y))) ∧ st' = t ∧ dc = 0 ∧ ds = 0 := by
  unfold sAst at h
  split at h
  · rename_i y x r t
    split at h
    · rename_i nn ov hr
      split at h
      · rename_i hk
        obtain ⟨j, hj, he⟩ := Option.map_eq_some_iff.mp h
        cases he
        exact ⟨y, x, r, _, nn, ov, j, rfl, hr, hk, hj, rfl, rfl, rfl, rfl, rfl⟩
      · cases h
    · cases h
  · cases h
theorem sIast_ok (hx : p.tables.exec = Jvm.exec) (hb : c.code = cc) (hc : sCtx ρ ex g n0 s) (hs : sSat ρ env) (hpt : sPt ρ ex g (fun q => n0 ≤ q) wd ws H s.heap locs) (hS : sA2 (sRep ρ (ws.map Prod.fst) ex) st vs)
    (hd : decode cc pc = .ok (.iastore, n)) (h : sAst env wd st 0 0 (0, 0) = some (n, wd', st', dc, ds)) (k : sGo p l e R s m args below meth c Q ls ρ ex g n0 ws wd' st' (cells + dc) (slots + ds) (pc + n)) : W p l e R s m args below meth c H locs cells slots Q (F0 m pc ls vs) := by
  obtain ⟨y, x, r, t, nn, ov, j, rfl, hr, hk, hj, rfl, rfl, rfl, rfl, rfl⟩ := sAst_inv h
  obtain ⟨vy, vs1, rfl, hy, hS1⟩ := sA2_cons hS
  obtain ⟨v, vs2, rfl, hxv, hS2⟩ := sA2_cons hS1
  obtain ⟨v0, rest, rfl, h0, hS3⟩ := sA2_cons hS2
  obtain ⟨a, e0, hws, hc0⟩ := sRow_ok hpt.1 hr
  obtain ⟨f, rfl, hf⟩ := sInv0 hc0
  have e1 := sRef h0 hws
  subst e1
  obtain ⟨i, rfl, hin, hcl, hlt⟩ := sIdx_ok hs hxv hj
  have hyn := sN_ok hs hy
  obtain ⟨z, rfl⟩ := sRep_int hy hk
  refine va_iast hx hb hc.1 hpt.2.1 hpt.2.2.1 hpt.2.2.2 r.toNat 0 hws rfl hin hd (fun H1 locs1 q1 q2 q3 => k _ H1 locs1 _ (by rw [sMapSet hws]; exact List.prefix_rfl) ⟨sRW_set hpt.1 hws ?_, q1, q2, q3⟩ (by rw [sMapSet hws]; exact hS3))
  refine ⟨rfl, rfl, fun b hb0 => ?_⟩
  rw [sLook_set, hcl]
  unfold upd
  by_cases e2 : b = j
  · rw [if_pos e2, if_pos e2]
    exact hyn
  · rw [if_neg e2, if_neg e2]
    exact hf b hb0
theorem sNar_ok {ads : List Nat} (hs : sSat ρ env) {y : sV} {z : Int32} (h : sRep ρ ads ex y (.int z)) : sRep ρ ads ex (sNar env y) (.int (vp_nar .byte z)) := by
  have h' := sN_ok hs h
  unfold sNar
  generalize sN env y = y' at h'
  split
  · simp only [sRep] at h'
    cases h'
    show Value.int _ = Value.int _
    rw [Int32.ofInt_toInt]
  · exact ⟨_, rfl⟩
theorem sBast_ok (hx : p.tables.exec = Jvm.exec) (hb : c.code = cc) (hc : sCtx ρ ex g n0 s) (hs : sSat ρ env) (hpt : sPt ρ ex g (fun q => n0 ≤ q) wd ws H s.heap locs) (hS : sA2 (sRep ρ (ws.map Prod.fst) ex) st vs)
    (hd : decode cc pc = .ok (.bastore, n)) (h : sAst env wd st 1 0 (0, 0) = some (n, wd', st', dc, ds)) (k : sGo p l e R s m args below meth c Q ls ρ ex g n0 ws wd' st' (cells + dc) (slots + ds) (pc + n)) : W p l e R s m args below meth c H locs cells slots Q (F0 m pc ls vs) := by
  obtain ⟨y, x, r, t, nn, ov, j, rfl, hr, hk, hj, rfl, rfl, rfl, rfl, rfl⟩ := sAst_inv h
  obtain ⟨vy, vs1, rfl, hy, hS1⟩ := sA2_cons hS
  obtain ⟨v, vs2, rfl, hxv, hS2⟩ := sA2_cons hS1
  obtain ⟨v0, rest, rfl, h0, hS3⟩ := sA2_cons hS2
  obtain ⟨a, e0, hws, hc0⟩ := sRow_ok hpt.1 hr
  obtain ⟨f, rfl, hf⟩ := sInv1 hc0
  have e1 := sRef h0 hws
  subst e1
  obtain ⟨i, rfl, hin, hcl, hlt⟩ := sIdx_ok hs hxv hj
  obtain ⟨z, rfl⟩ := sRep_int hy hk
  have hyn := sNar_ok hs hy
  refine va_bast hx hb hc.1 hpt.2.1 hpt.2.2.1 hpt.2.2.2 r.toNat 1 hws rfl hin hd (fun H1 locs1 q1 q2 q3 => k _ H1 locs1 _ (by rw [sMapSet hws]; exact List.prefix_rfl) ⟨sRW_set hpt.1 hws ?_, q1, q2, q3⟩ (by rw [sMapSet hws]; exact hS3))
  refine ⟨rfl, rfl, fun b hb0 => ?_⟩
  rw [sLook_set, hcl]
  unfold upd
  by_cases e2 : b = j
  · rw [if_pos e2, if_pos e2]
    exact hyn
  · rw [if_neg e2, if_neg e2]
    exact hf b hb0
theorem sLast_ok (hx : p.tables.exec = Jvm.exec) (hb : c.code = cc) (hc : sCtx ρ ex g n0 s) (hs : sSat ρ env) (hpt : sPt ρ ex g (fun q => n0 ≤ q) wd ws H s.heap locs) (hS : sA2 (sRep ρ (ws.map Prod.fst) ex) st vs)
    (hd : decode cc pc = .ok (.lastore, n)) (h : sAst env wd st 2 1 (1, 0) = some (n, wd', st', dc, ds)) (k : sGo p l e R s m args below meth c Q ls ρ ex g n0 ws wd' st' (cells + dc) (slots + ds) (pc + n)) : W p l e R s m args below meth c H locs cells slots Q (F0 m pc ls vs) := by
  obtain ⟨y, x, r, t, nn, ov, j, rfl, hr, hk, hj, rfl, rfl, rfl, rfl, rfl⟩ := sAst_inv h
  obtain ⟨vy, vs1, rfl, hy, hS1⟩ := sA2_cons hS
  obtain ⟨v, vs2, rfl, hxv, hS2⟩ := sA2_cons hS1
  obtain ⟨v0, rest, rfl, h0, hS3⟩ := sA2_cons hS2
  obtain ⟨a, e0, hws, hc0⟩ := sRow_ok hpt.1 hr
  obtain ⟨f, rfl, hf⟩ := sInv2 hc0
  have e1 := sRef h0 hws
  subst e1
  obtain ⟨i, rfl, hin, hcl, hlt⟩ := sIdx_ok hs hxv hj
  have hyn := sN_ok hs hy
  obtain ⟨z, rfl⟩ := sRep_long hy hk
  refine va_last hx hb hc.1 hpt.2.1 hpt.2.2.1 hpt.2.2.2 r.toNat 2 hws rfl hin hd (fun H1 locs1 q1 q2 q3 => k _ H1 locs1 _ (by rw [sMapSet hws]; exact List.prefix_rfl) ⟨sRW_set hpt.1 hws ?_, q1, q2, q3⟩ (by rw [sMapSet hws]; exact hS3))
  refine ⟨rfl, rfl, fun b hb0 => ?_⟩
  rw [sLook_set, hcl]
  unfold vp_updL
  by_cases e2 : b = j
  · rw [if_pos e2, if_pos e2]
    exact hyn
  · rw [if_neg e2, if_neg e2]
    exact hf b hb0
theorem sAstS_ok (hx : p.tables.exec = Jvm.exec) (hb : c.code = cc) (hc : sCtx ρ ex g n0 s) (hs : sSat ρ env) (hpt : sPt ρ ex g (fun q => n0 ≤ q) wd ws H s.heap locs) (hS : sA2 (sRep ρ (ws.map Prod.fst) ex) st vs)
    (hd : decode cc pc = .ok (.aastore, n)) (h : sAstS env wd st = some (n, wd', st', dc, ds)) (k : sGo p l e R s m args below meth c Q ls ρ ex g n0 ws wd' st' (cells + dc) (slots + ds) (pc + n)) : W p l e R s m args below meth c H locs cells slots Q (F0 m pc ls vs) := by
  unfold sAstS at h
  split at h
  · rename_i j0 x r t
    split at h
    · rename_i nn ov hr
      split at h
      · rename_i hj0
        obtain ⟨j, hj, he⟩ := Option.map_eq_some_iff.mp h
        cases he
        obtain ⟨vy, vs1, rfl, hy, hS1⟩ := sA2_cons hS
        obtain ⟨v, vs2, rfl, hxv, hS2⟩ := sA2_cons hS1
        obtain ⟨v0, rest, rfl, h0, hS3⟩ := sA2_cons hS2
        obtain ⟨a, e0, hws, hc0⟩ := sRow_ok hpt.1 hr
        obtain ⟨f, rfl⟩ := sInv3 hc0
        have e1 := sRef h0 hws
        subst e1
        obtain ⟨i, rfl, hin, hcl, hlt⟩ := sIdx_ok hs hxv hj
        simp only [sRep] at hy
        subst hy
        obtain ⟨q, hq⟩ : ∃ q, sStr[j0.toNat - 1]? = some q := ⟨_, List.getElem?_eq_getElem (by omega)⟩
        obtain ⟨-, hany, hlt0⟩ := hc.2.1 _ _ hq
        rw [show j0.toNat - 1 + 1 = j0.toNat by omega] at hany hlt0
        have hn0 := hc.2.2.2.2.2.2.2.2.2.1
        have hany' : va_Any "java/lang/String" s H (ex j0.toNat) := sAny_to (Vm.Alike.refl s.vm) (hpt.2.2.2.2.1 _ (Nat.lt_of_lt_of_le hlt0 hn0) (Nat.not_le.mpr hlt0)) hany
        exact va_astqM hx hb hc.1 hpt.2.1 hpt.2.2.1 hpt.2.2.2 r.toNat 3 hws rfl hany' hin hd (fun H1 locs1 q1 q2 q3 => k _ H1 locs1 _ (by rw [sMapSet hws]; exact List.prefix_rfl) ⟨sRW_set hpt.1 hws (show sRepC _ _ _ _ (.inr (3, nn, ov)) (.inl (g.2.2.2.2, nn, .inr (.inr (.inr (.inr _))))) from ⟨rfl, rfl⟩), q1, q2, q3⟩ (by rw [sMapSet hws]; exact hS3))
      · cases h
    · cases h
  · cases h
end SHW
