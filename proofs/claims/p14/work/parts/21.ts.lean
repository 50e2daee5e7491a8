noncomputable section
section SHX
variable {p : Program} {l : Launch} {e : Env} {R : Room} {s : State} {m : MethodId} {args : Array Value} {below : List Frame} {meth : Method} {c : Code} {H : Heap} {locs : List Loc} {cells slots : Nat} {Q : State → Prop}
variable {cc : ByteArray} {pc : Nat} {ls : Array Slot} {ρ : List Int} {ex : Nat → Nat} {κ : sCx} {G : List sFc} {g : sG} {n0 L : Nat} {sc : Nat → Int32} {wd : List sC} {ws : va_W} {st : List sV} {vs : List Value} {n dc ds : Nat} {os : List sH4} {own mn : String} {ax : List Nat}
theorem sBald_ok (hx : p.tables.exec = Jvm.exec) (hb : c.code = cc) (hc : sCtx sc L ex g n0 s) (hs : sCok ρ κ) (hG : ∀ f ∈ G, sWf (sAc ws) L sc ρ f) (hpt : sPt ρ ex g (fun q => n0 ≤ q) wd ws H s.heap locs) (hS : sA2 (sRep ρ (ws.map Prod.fst) ex) st vs)
    (hd : decode cc pc = .ok (.baload, n)) (h : sBald κ G wd st = some (n, os, dc, ds)) (k : sGo p l e R s m args below meth c Q ls ρ ex g n0 L sc ws os (cells + dc) (slots + ds) (pc + n)) : W p l e R s m args below meth c H locs cells slots Q (F0 m pc ls vs) := by
  unfold sBald at h
  simp only [fAt_eq] at h
  split at h
  · rename_i x r t
    obtain ⟨v, vs1, rfl, hxv, hS1⟩ := sA2_cons hS
    obtain ⟨v0, rest, rfl, h0, hS2⟩ := sA2_cons hS1
    split at h
    · rename_i nn ov hq
      obtain ⟨a, e0, hws, -, hr⟩ := sRW_get hpt.1 hq
      obtain ⟨f, rfl, hf⟩ := sInv5 hr
      have e1 := sRef h0 hws
      subst e1
      split at h
      · rename_i hix
        cases h
        obtain ⟨i, j, rfl, hin, hcl, hlt, hj⟩ := sIx_ok hs hxv hix
        refine va_bald hx hb hc.1 hpt.2.1 r.toNat 1 hws rfl hin hd ?_
        rw [hcl]
        have hA : sAc ws r.toNat = f := sAc_at hws
        refine sLds_go hpt hS2 ⟨_, List.mem_cons_self, ?_⟩ k
        rw [← hA]
        exact sLdY_ok hs hG (sN_ev hs.1 hj) (by rw [hA]; exact (hf j hlt).1) (by rw [hA]; exact (hf j hlt).2)
      · cases h
    · cases h
  · rename_i x j t
    split at h
    · rename_i hj
      split at h
      · rename_i nn hn
        split at h
        · rename_i hix
          obtain ⟨v, vs1, rfl, hxv, hS1⟩ := sA2_cons hS
          obtain ⟨v0, rest, rfl, h0, hS2⟩ := sA2_cons hS1
          simp only [sRep] at h0
          subst h0
          obtain ⟨-, -, -, f, g4, g5, g6⟩ := hc.2.2.2.2.2.2.2.2.2.2.2.2.1 _ _ hn
          rw [show j.toNat - 1000 + 1000 = j.toNat by omega] at g4
          split at h
          · rename_i jj bs hjj hbs
            split at h
            · rename_i b hb1
              cases h
              obtain ⟨i, rfl, hin, hcl, hlt⟩ := sKx_ok hs hxv hjj
              refine va_tb hx hb g4 hpt.2.2.2 hin (v := .int (f jj)) (by rw [hcl]) hd (k _ List.mem_cons_self ρ ws H locs _ List.prefix_rfl List.prefix_rfl hs hG hpt ⟨?_, hS2⟩)
              show Value.int (f jj) = .int (Int32.ofInt b)
              rw [← g6 bs jj b hbs hb1, Int32.ofInt_toInt]
            · cases h
          · obtain ⟨i, jj, rfl, hin, hcl, hlt, -⟩ := sIx_ok hs hxv hix
            obtain ⟨ρ', r1, r2, r3, r4⟩ := sFx_ok hs (f jj) (lo := -128) (hi := 127) (fun _ _ => g5 jj)
            generalize sFx κ (-128) 127 = qq at h r2 r3 r4
            obtain ⟨κ1, y⟩ := qq
            cases h
            refine va_tb hx hb g4 hpt.2.2.2 hin (v := .int (f jj)) (by rw [hcl]) hd (k _ List.mem_cons_self ρ' ws H locs _ r1 List.prefix_rfl r2 (fun f hf => sWf_mono r1 (hG f hf)) ⟨sRW_more r1 hpt.1, hpt.2⟩ ⟨?_, sStM r1 List.prefix_rfl hS2⟩)
            have q := sRep_of_int (ads := ws.map Prod.fst) (ex := ex) r3 r4
            rw [Int32.ofInt_toInt] at q
            exact q
        · cases h
      · cases h
    · cases h
  · cases h
theorem sLald_ok (hx : p.tables.exec = Jvm.exec) (hb : c.code = cc) (hc : sCtx sc L ex g n0 s) (hs : sCok ρ κ) (hG : ∀ f ∈ G, sWf (sAc ws) L sc ρ f) (hpt : sPt ρ ex g (fun q => n0 ≤ q) wd ws H s.heap locs) (hS : sA2 (sRep ρ (ws.map Prod.fst) ex) st vs)
    (hd : decode cc pc = .ok (.laload, n)) (h : sLald κ G wd st = some (n, os, dc, ds)) (k : sGo p l e R s m args below meth c Q ls ρ ex g n0 L sc ws os (cells + dc) (slots + ds) (pc + n)) : W p l e R s m args below meth c H locs cells slots Q (F0 m pc ls vs) := by
  unfold sLald at h
  simp only [fAt_eq] at h
  split at h
  · rename_i x r t
    obtain ⟨v, vs1, rfl, hxv, hS1⟩ := sA2_cons hS
    obtain ⟨v0, rest, rfl, h0, hS2⟩ := sA2_cons hS1
    split at h
    · rename_i nn ov hq
      obtain ⟨a, e0, hws, -, hr⟩ := sRW_get hpt.1 hq
      obtain ⟨f, rfl, hf⟩ := sInv2 hr
      have e1 := sRef h0 hws
      subst e1
      split at h
      · rename_i j hj
        cases h
        obtain ⟨i, rfl, hin, hcl, hlt⟩ := sKx_ok hs hxv hj
        refine va_lald hx hb hc.1 hpt.2.1 r.toNat 2 hws rfl hin hd ?_
        rw [hcl]
        exact k _ List.mem_cons_self ρ ws H locs _ List.prefix_rfl List.prefix_rfl hs hG hpt ⟨hf j hlt, hS2⟩
      · cases h
    · cases h
  · cases h
theorem sAald_ok (hx : p.tables.exec = Jvm.exec) (hb : c.code = cc) (hc : sCtx sc L ex g n0 s) (hs : sCok ρ κ) (hG : ∀ f ∈ G, sWf (sAc ws) L sc ρ f) (hpt : sPt ρ ex g (fun q => n0 ≤ q) wd ws H s.heap locs) (hS : sA2 (sRep ρ (ws.map Prod.fst) ex) st vs)
    (hd : decode cc pc = .ok (.aaload, n)) (h : sAald κ G wd st = some (n, os, dc, ds)) (k : sGo p l e R s m args below meth c Q ls ρ ex g n0 L sc ws os (cells + dc) (slots + ds) (pc + n)) : W p l e R s m args below meth c H locs cells slots Q (F0 m pc ls vs) := by
  unfold sAald at h
  simp only [fAt_eq] at h
  split at h
  · rename_i x r t
    obtain ⟨v, vs1, rfl, hxv, hS1⟩ := sA2_cons hS
    obtain ⟨v0, rest, rfl, h0, hS2⟩ := sA2_cons hS1
    split at h
    · rename_i nn ov hq
      obtain ⟨a, e0, hws, -, hr⟩ := sRW_get hpt.1 hq
      obtain ⟨f, rfl, hf⟩ := sInv3 hr
      have e1 := sRef h0 hws
      subst e1
      split at h
      · split at h
        · rename_i j hj
          cases h
          obtain ⟨i, rfl, hin, hcl, hlt⟩ := sKx_ok hs hxv hj
          exact va_aldq hx hb hc.1 hpt.2.1 r.toNat 3 hws rfl hin hd (k _ List.mem_cons_self ρ ws H locs _ List.prefix_rfl List.prefix_rfl hs hG hpt ⟨by rw [hcl]; exact hf j hlt, hS2⟩)
        · cases h
      · cases h
    · cases h
  · cases h
theorem sInB_ok {S : List (Int × Int)} {i j : Nat} {x y : sV} {z : Int32} (hs : sCok ρ κ) (hS : sSpec[i]? = some S) (hx : sEv ρ x = some (j : Int)) (hy : sEv ρ y = some z.toInt) (hex : ∃ q, S[j % S.length]? = some q) (h : sInB κ x y S i = true) : ∃ lo hi, S[j % S.length]? = some (lo, hi) ∧ lo ≤ z.toInt ∧ z.toInt ≤ hi := by
  have hl : 0 < S.length := by
    obtain ⟨q, hq⟩ := hex
    cases S with
    | nil => simp at hq
    | cons a t => simp
  unfold sInB at h
  rw [Bool.or_eq_true] at h
  rcases h with h | h
  · split at h
    · rename_i lo hi hr
      obtain ⟨p1, p2, -⟩ := sRg_ev hs.1 hy hr
      split at h
      · rename_i k0 hk
        have e1 := sRs_ok hs hl hx hk
        split at h
        · rename_i a b hab
          simp only [Bool.and_eq_true, decide_eq_true_eq] at h
          exact ⟨a, b, by rw [e1]; exact hab, by omega, by omega⟩
        · cases h
      · obtain ⟨q, hq⟩ := hex
        have hq2 := List.all_eq_true.mp h q (List.mem_of_getElem? hq)
        simp only [Bool.and_eq_true, decide_eq_true_eq] at hq2
        exact ⟨q.1, q.2, hq, by omega, by omega⟩
    · cases h
  · obtain ⟨f, hf, h1⟩ := List.any_eq_true.mp h
    have hp := hs.2 f hf
    unfold sB4 at h1
    split at h1
    · rename_i x' y' i'
      simp only [Bool.and_eq_true, decide_eq_true_eq] at h1
      obtain ⟨rfl, rfl, e1, e2⟩ := h1
      obtain ⟨u, w, S', lo, hi, g1, g2, g3, g4, g5, g6⟩ := hp
      rw [hS] at g3
      cases g3
      rw [hy] at g2
      cases g2
      have hd := sEv_same e1 g1 hx
      have hm : (u % (S.length : Int)) = ((j : Int) % (S.length : Int)) := by
        rw [hd] at e2
        obtain ⟨q', hq'⟩ := Int.dvd_of_emod_eq_zero e2
        have eu : u = (j : Int) + (S.length : Int) * q' := by omega
        rw [eu, Int.add_mul_emod_self_left]
      rw [hm, ← Int.natCast_emod, Int.toNat_natCast] at g4
      exact ⟨lo, hi, g4, g5, g6⟩
    · cases h1
theorem sIast_ok (hx : p.tables.exec = Jvm.exec) (hb : c.code = cc) (hc : sCtx sc L ex g n0 s) (hs : sCok ρ κ) (hG : ∀ f ∈ G, sWf (sAc ws) L sc ρ f) (hpt : sPt ρ ex g (fun q => n0 ≤ q) wd ws H s.heap locs) (hS : sA2 (sRep ρ (ws.map Prod.fst) ex) st vs)
    (hd : decode cc pc = .ok (.iastore, n)) (h : sIast κ G wd st = some (n, os, dc, ds)) (k : sGo p l e R s m args below meth c Q ls ρ ex g n0 L sc ws os (cells + dc) (slots + ds) (pc + n)) : W p l e R s m args below meth c H locs cells slots Q (F0 m pc ls vs) := by
  unfold sIast at h
  simp only [fAt_eq] at h
  split at h
  · rename_i y x r t
    obtain ⟨vy, vs1, rfl, hy, hS1⟩ := sA2_cons hS
    obtain ⟨v, vs2, rfl, hxv, hS2⟩ := sA2_cons hS1
    obtain ⟨v0, rest, rfl, h0, hS3⟩ := sA2_cons hS2
    split at h
    · rename_i nn ov hq
      obtain ⟨a, e0, hws, -, hr⟩ := sRW_get hpt.1 hq
      obtain ⟨f, rfl, hf⟩ := sInv0 hr
      have e1 := sRef h0 hws
      subst e1
      split at h
      · rename_i hix
        split at h
        · rename_i j hj
          cases h
          obtain ⟨i, rfl, hin, hcl, hlt⟩ := sKx_ok hs hxv hj
          have hyn := sN_ok hs.1 hy
          obtain ⟨w, rfl, -⟩ := sRep_int hy hix.2
          refine va_iast hx hb hc.1 hpt.2.1 hpt.2.2.1 hpt.2.2.2 r.toNat 0 hws rfl hin hd (fun H1 locs1 q1 q2 q3 => k _ List.mem_cons_self ρ _ H1 locs1 _ List.prefix_rfl (by rw [sMapSet hws]; exact List.prefix_rfl) hs (sKeep_ok hG (fun b hb0 => sAc_other hb0)) ⟨sRW_set hpt.1 hws ?_, q1, q2, q3⟩ (by rw [sMapSet hws]; exact hS3))
          refine ⟨rfl, rfl, fun b hb0 => ?_⟩
          rw [sLook_set, hcl]
          unfold upd
          by_cases e2 : b = j
          · rw [if_pos e2, if_pos e2]
            exact hyn
          · rw [if_neg e2, if_neg e2]
            exact hf b hb0
        · cases h
      · cases h
    · rename_i nn i0 z0 hq
      obtain ⟨a, e0, hws, -, hr⟩ := sRW_get hpt.1 hq
      obtain ⟨f, S, rfl, hS0, hf⟩ := sInv4 hr
      have e1 := sRef h0 hws
      subst e1
      split at h
      · rename_i hix
        obtain ⟨hix1, hk, hrs⟩ := hix
        rw [hS0] at h
        simp only at h
        split at h
        · rename_i hin4
          cases h
          obtain ⟨i, j, rfl, hin, hcl, hlt, hj⟩ := sIx_ok hs hxv hix1
          obtain ⟨w, rfl, hw⟩ := sRep_int hy hk
          obtain ⟨qr, hqr⟩ := Option.isSome_iff_exists.mp hrs
          obtain ⟨-, -, iw⟩ := sRg_ev (lo := qr.1) (hi := qr.2) hs.1 hw hqr
          have ew := sI_toInt iw
          have hw' : sEv ρ (sN κ.2.1 y) = some (Int32.ofInt w).toInt := by rw [ew]; exact sN_ev hs.1 hw
          have hA : sAc ws r.toNat = f := sAc_at hws
          obtain ⟨lo0, hi0, b0, -⟩ := hf j hlt
          obtain ⟨lo, hi, b1, b2, b3⟩ := sInB_ok hs hS0 (sN_ev hs.1 hj) hw' ⟨_, b0⟩ hin4
          refine va_iast hx hb hc.1 hpt.2.1 hpt.2.2.1 hpt.2.2.2 r.toNat 0 hws rfl hin hd (fun H1 locs1 q1 q2 q3 => k _ List.mem_cons_self ρ _ H1 locs1 _ List.prefix_rfl (by rw [sMapSet hws]; exact List.prefix_rfl) hs (sStG_ok hs hG (sN_ev hs.1 hj) hw' (by rw [sAc_set hws, hA, hcl]) (fun b hb0 => sAc_other hb0)) ⟨?_, q1, q2, q3⟩ (by rw [sMapSet hws]; exact hS3))
          have hself : wd = wd.set r.toNat (.inr (4, nn, [(i0, z0)])) := by
            obtain ⟨hl0, hge⟩ := List.getElem?_eq_some_iff.mp hq
            rw [← hge, List.set_getElem_self]
          rw [hself]
          refine sRW_set hpt.1 hws ⟨rfl, rfl, S, hS0, fun b hb0 => ?_⟩
          rw [hcl]
          unfold upd
          by_cases e2 : b = j
          · rw [if_pos e2, e2]
            exact ⟨lo, hi, b1, b2, b3⟩
          · rw [if_neg e2]
            exact hf b hb0
        · cases h
      · cases h
    · cases h
  · cases h
theorem sBast_ok (hx : p.tables.exec = Jvm.exec) (hb : c.code = cc) (hc : sCtx sc L ex g n0 s) (hs : sCok ρ κ) (hG : ∀ f ∈ G, sWf (sAc ws) L sc ρ f) (hpt : sPt ρ ex g (fun q => n0 ≤ q) wd ws H s.heap locs) (hS : sA2 (sRep ρ (ws.map Prod.fst) ex) st vs)
    (hd : decode cc pc = .ok (.bastore, n)) (h : sBast κ G wd st = some (n, os, dc, ds)) (k : sGo p l e R s m args below meth c Q ls ρ ex g n0 L sc ws os (cells + dc) (slots + ds) (pc + n)) : W p l e R s m args below meth c H locs cells slots Q (F0 m pc ls vs) := by
  unfold sBast at h
  simp only [fAt_eq] at h
  split at h
  · rename_i y x r t
    obtain ⟨vy, vs1, rfl, hy, hS1⟩ := sA2_cons hS
    obtain ⟨v, vs2, rfl, hxv, hS2⟩ := sA2_cons hS1
    obtain ⟨v0, rest, rfl, h0, hS3⟩ := sA2_cons hS2
    split at h
    · rename_i nn ov hq
      obtain ⟨a, e0, hws, -, hr⟩ := sRW_get hpt.1 hq
      obtain ⟨f, rfl, hf⟩ := sInv5 hr
      have e1 := sRef h0 hws
      subst e1
      split at h
      · rename_i hix
        cases h
        obtain ⟨i, j, rfl, hin, hcl, hlt, hj⟩ := sIx_ok hs hxv hix.1
        obtain ⟨w, rfl, hw⟩ := sRep_int hy hix.2
        have hA : sAc ws r.toNat = f := sAc_at hws
        refine va_bast hx hb hc.1 hpt.2.1 hpt.2.2.1 hpt.2.2.2 r.toNat 1 hws rfl hin hd (fun H1 locs1 q1 q2 q3 => k _ List.mem_cons_self ρ _ H1 locs1 _ List.prefix_rfl (by rw [sMapSet hws]; exact List.prefix_rfl) hs (sStB_ok hs hG (sN_ev hs.1 hj) (sN_ev hs.1 hw) (by rw [sAc_set hws, hA, hcl]; rfl) (fun b hb0 => sAc_other hb0)) ⟨?_, q1, q2, q3⟩ (by rw [sMapSet hws]; exact hS3))
        have hself : wd = wd.set r.toNat (.inr (5, nn, ov)) := by
          obtain ⟨hl0, hge⟩ := List.getElem?_eq_some_iff.mp hq
          rw [← hge, List.set_getElem_self]
        rw [hself]
        refine sRW_set hpt.1 hws ⟨rfl, rfl, fun b hb0 => ?_⟩
        rw [hcl]
        unfold upd
        by_cases e2 : b = j
        · rw [if_pos e2]
          exact sByt _
        · rw [if_neg e2]
          exact hf b hb0
      · cases h
    · cases h
  · cases h
theorem sLast_ok (hx : p.tables.exec = Jvm.exec) (hb : c.code = cc) (hc : sCtx sc L ex g n0 s) (hs : sCok ρ κ) (hG : ∀ f ∈ G, sWf (sAc ws) L sc ρ f) (hpt : sPt ρ ex g (fun q => n0 ≤ q) wd ws H s.heap locs) (hS : sA2 (sRep ρ (ws.map Prod.fst) ex) st vs)
    (hd : decode cc pc = .ok (.lastore, n)) (h : sLast κ G wd st = some (n, os, dc, ds)) (k : sGo p l e R s m args below meth c Q ls ρ ex g n0 L sc ws os (cells + dc) (slots + ds) (pc + n)) : W p l e R s m args below meth c H locs cells slots Q (F0 m pc ls vs) := by
  unfold sLast at h
  simp only [fAt_eq] at h
  split at h
  · rename_i y x r t
    obtain ⟨vy, vs1, rfl, hy, hS1⟩ := sA2_cons hS
    obtain ⟨v, vs2, rfl, hxv, hS2⟩ := sA2_cons hS1
    obtain ⟨v0, rest, rfl, h0, hS3⟩ := sA2_cons hS2
    split at h
    · rename_i nn ov hq
      obtain ⟨a, e0, hws, -, hr⟩ := sRW_get hpt.1 hq
      obtain ⟨f, rfl⟩ := sInv6 hr
      have e1 := sRef h0 hws
      subst e1
      split at h
      · rename_i hix
        cases h
        obtain ⟨i, j, rfl, hin, hcl, hlt, hj⟩ := sIx_ok hs hxv hix.1
        obtain ⟨w, rfl, -⟩ := sRep_long hy hix.2
        refine va_last hx hb hc.1 hpt.2.1 hpt.2.2.1 hpt.2.2.2 r.toNat 2 hws rfl hin hd (fun H1 locs1 q1 q2 q3 => k _ List.mem_cons_self ρ _ H1 locs1 _ List.prefix_rfl (by rw [sMapSet hws]; exact List.prefix_rfl) hs (sWf_same hG (fun b => sAc_long hws b)) ⟨?_, q1, q2, q3⟩ (by rw [sMapSet hws]; exact hS3))
        have hself : wd = wd.set r.toNat (.inr (6, nn, ov)) := by
          obtain ⟨hl0, hge⟩ := List.getElem?_eq_some_iff.mp hq
          rw [← hge, List.set_getElem_self]
        rw [hself]
        exact sRW_set hpt.1 hws ⟨rfl, rfl⟩
      · cases h
    · rename_i nn ov hq
      obtain ⟨a, e0, hws, -, hr⟩ := sRW_get hpt.1 hq
      obtain ⟨f, rfl, hf⟩ := sInv2 hr
      have e1 := sRef h0 hws
      subst e1
      split at h
      · rename_i hk
        split at h
        · rename_i j hj
          cases h
          obtain ⟨i, rfl, hin, hcl, hlt⟩ := sKx_ok hs hxv hj
          have hy0 := hy
          obtain ⟨w, rfl, -⟩ := sRep_long hy hk
          refine va_last hx hb hc.1 hpt.2.1 hpt.2.2.1 hpt.2.2.2 r.toNat 2 hws rfl hin hd (fun H1 locs1 q1 q2 q3 => k _ List.mem_cons_self ρ _ H1 locs1 _ List.prefix_rfl (by rw [sMapSet hws]; exact List.prefix_rfl) hs (sWf_same hG (fun b => sAc_long hws b)) ⟨sRW_set hpt.1 hws ?_, q1, q2, q3⟩ (by rw [sMapSet hws]; exact hS3))
          refine ⟨rfl, rfl, fun b hb0 => ?_⟩
          rw [sLook_set, hcl]
          unfold vp_updL
          by_cases e2 : b = j
          · rw [if_pos e2, if_pos e2]
            exact hy0
          · rw [if_neg e2, if_neg e2]
            exact hf b hb0
        · cases h
      · cases h
    · cases h
  · cases h
theorem sAstS_ok (hx : p.tables.exec = Jvm.exec) (hb : c.code = cc) (hc : sCtx sc L ex g n0 s) (hs : sCok ρ κ) (hG : ∀ f ∈ G, sWf (sAc ws) L sc ρ f) (hpt : sPt ρ ex g (fun q => n0 ≤ q) wd ws H s.heap locs) (hS : sA2 (sRep ρ (ws.map Prod.fst) ex) st vs)
    (hd : decode cc pc = .ok (.aastore, n)) (h : sAstS κ G wd st = some (n, os, dc, ds)) (k : sGo p l e R s m args below meth c Q ls ρ ex g n0 L sc ws os (cells + dc) (slots + ds) (pc + n)) : W p l e R s m args below meth c H locs cells slots Q (F0 m pc ls vs) := by
  unfold sAstS at h
  simp only [fAt_eq] at h
  split at h
  · rename_i j0 x r t
    obtain ⟨vy, vs1, rfl, hy, hS1⟩ := sA2_cons hS
    obtain ⟨v, vs2, rfl, hxv, hS2⟩ := sA2_cons hS1
    obtain ⟨v0, rest, rfl, h0, hS3⟩ := sA2_cons hS2
    split at h
    · rename_i nn ov hq
      obtain ⟨a, e0, hws, -, hr⟩ := sRW_get hpt.1 hq
      obtain ⟨f, rfl, hf⟩ := sInv3 hr
      have e1 := sRef h0 hws
      subst e1
      split at h
      · rename_i hix
        obtain ⟨hix1, hj0, hj1, hGn⟩ := hix
        split at h
        · rename_i j hj
          cases h
          obtain ⟨i, rfl, hin, hcl, hlt⟩ := sKx_ok hs hxv hj
          have hy' := hy
          simp only [sRep] at hy'
          subst hy'
          obtain ⟨q, hqq⟩ : ∃ q, sStr[j0.toNat - 1]? = some q := ⟨_, List.getElem?_eq_getElem (by omega)⟩
          obtain ⟨-, hany, hlt0⟩ := hc.2.1 _ _ hqq
          rw [show j0.toNat - 1 + 1 = j0.toNat by omega] at hany hlt0
          have hn0 := hc.2.2.2.2.2.2.2.2.2.1
          have hany' : va_Any "java/lang/String" s H (ex j0.toNat) := sAny_to (Vm.Alike.refl s.vm) (hpt.2.2.2.2.1 _ (Nat.lt_of_lt_of_le hlt0 hn0) (Nat.not_le.mpr hlt0)) hany
          refine va_astqM hx hb hc.1 hpt.2.1 hpt.2.2.1 hpt.2.2.2 r.toNat 3 hws rfl hany' hin hd (fun H1 locs1 q1 q2 q3 => k _ List.mem_cons_self ρ _ H1 locs1 _ List.prefix_rfl (by rw [sMapSet hws]; exact List.prefix_rfl) hs (fun f hf => by rw [hGn] at hf; cases hf) ⟨sRW_set hpt.1 hws ?_, q1, q2, q3⟩ (by rw [sMapSet hws]; exact hS3))
          refine ⟨rfl, rfl, fun b hb0 => ?_⟩
          rw [sLook_set, hcl]
          by_cases e2 : b = j
          · rw [if_pos e2, va_up, if_pos e2]
            exact hy
          · rw [if_neg e2, va_up, if_neg e2]
            exact hf b hb0
        · cases h
      · cases h
    · cases h
  · cases h
end SHX
end
