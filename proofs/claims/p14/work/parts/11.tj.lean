noncomputable section
/-! ===== branches, sound ===== -/
/-- a long as the int of the same number -/
def sToI (x : sV) : sV := if x.1 = 1 then (0, x.2) else if 17 ≤ x.1 then (x.1 - 1, x.2) else x
theorem sToI_ev {ρ : List Int} {x : sV} {n : Int} (hk : sK x = 1) (h : sEv ρ x = some n) : sEv ρ (sToI x) = some n := by
  obtain ⟨t, c⟩ := x
  unfold sToI
  by_cases h1 : t = 1
  · subst h1
    simpa [sEv] using h
  · simp only [h1, if_false]
    split
    · rename_i h17
      rw [sEv_gen ⟨by omega, by omega⟩, if_pos (by omega)] at h
      have ht : t % 2 = 1 := by
        rw [sK_gen ⟨by omega, by omega, by omega, by omega, by omega⟩, if_pos (by omega)] at hk
        exact hk
      rw [sEv_gen ⟨by omega, by omega⟩, if_pos (by omega), show (t - 1 - 16) / 2 = (t - 16) / 2 by omega]
      exact h
    · exact h
def sIf (c : sCn) (off : Int) (κ : sCx) (pc len : Nat) (a b : sV) (r : List sV) : Option (List sNx) := if sK a = 0 ∧ sK b = 0 ∧ len = 3 then (match sTg pc off, sRg κ.2.1 a, sRg κ.2.1 b with
  | some t, some _, some _ => (match sRf c κ (sN κ.2.1 a) (sN κ.2.1 b), sRf (sNeg c) κ (sN κ.2.1 a) (sN κ.2.1 b) with
    | some es, some fs => some ((es.map fun e => (e, t, r)) ++ (fs.map fun e => (e, pc + 3, r)))
    | _, _ => none)
  | _, _, _ => none) else none
/-- two longs compared -/
def sL3 (κ : sCx) (pc len : Nat) (a b : sV) (r : List sV) : Option (List sNx) := if sK a = 1 ∧ sK b = 1 ∧ len = 1 then (match sRg κ.2.1 (sToI a), sRg κ.2.1 (sToI b) with
  | some _, some _ => (match sRf .gt κ (sToI a) (sToI b), sRf .eq κ (sToI a) (sToI b), sRf .lt κ (sToI a) (sToI b) with
    | some x, some y, some z => some ((x.map fun e => (e, pc + 1, (0, 1) :: r)) ++ ((y.map fun e => (e, pc + 1, (0, 0) :: r)) ++ (z.map fun e => (e, pc + 1, (0, -1) :: r))))
    | _, _, _ => none)
  | _, _ => none) else none
def sTabM (κ : sCx) (pc : Nat) (a : sV) (r : List sV) : Int → List Int → Option (List sNx)
  | _, [] => some []
  | v, off :: t => match sTabM κ pc a r (v + 1) t, sTg pc off, sCut κ a v v (fun κ1 => some [κ1]) with
    | some rest, some tg, some l => some ((l.map fun e => (e, tg, r)) ++ rest)
    | _, _, _ => none
def sTab (κ : sCx) (pc : Nat) (d lo hi : Int) (offs : List Int) (a : sV) (r : List sV) : Option (List sNx) := if sK a = 0 ∧ hi = lo + (offs.length : Int) - 1 then (match sTg pc d, sRg κ.2.1 a, sTabM κ pc a r lo offs, sCut κ a (-2147483648) (lo - 1) (fun κ1 => some [κ1]), sCut κ a (hi + 1) 2147483647 (fun κ1 => some [κ1]) with
  | some td, some _, some q, some l1, some l2 => some (((l1 ++ l2).map fun e => (e, td, r)) ++ q)
  | _, _, _, _, _ => none) else none
def sBr (κ : sCx) (pc len : Nat) (ins : Instr) (st : List sV) : Option (List sNx) := match ins with
  | .goto off => if len = 3 then (sTg pc off).map fun t => [(κ, t, st)] else none
  | .ifCond c off => s1 st fun a r => sIf c off κ pc len a (0, 0) r
  | .if_icmp c off => s2 st fun a b r => sIf c off κ pc len a b r
  | .lcmp => s2 st fun a b r => sL3 κ pc len a b r
  | .tableswitch d lo hi offs => s1 st fun a r => sTab κ pc d lo hi offs.toList a r
  | _ => none
theorem sTabM_ok {ρ : List Int} {κ : sCx} (h : sCok ρ κ) {pc : Nat} {a : sV} {r : List sV} {x : Int} (hx : sEv ρ a = some x) : ∀ (v : Int) (offs : List Int) (q : List sNx), sTabM κ pc a r v offs = some q → v ≤ x → x < v + (offs.length : Int) →
    ∃ (off : Int) (t : Nat) (κ1 : sCx), offs[(x - v).toNat]? = some off ∧ sTg pc off = some t ∧ sCok ρ κ1 ∧ (κ1, t, r) ∈ q
  | v, [], q, h0, h3, h4 => by simp at h4; omega
  | v, off :: t, q, h0, h3, h4 => by
    simp only [sTabM] at h0
    split at h0
    · rename_i rest tg l hr ht hl
      cases h0
      by_cases e : x = v
      · subst e
        obtain ⟨κ1, g1, he1⟩ := sCut_ok h hx (Int.le_refl _) (Int.le_refl _) hl
        cases he1
        exact ⟨off, tg, κ1, by simp, ht, g1, by simp⟩
      · obtain ⟨o, tg', κ1, g1, g2, g3, g4⟩ := sTabM_ok h hx (v + 1) t rest hr (by omega) (by simp at h4; omega)
        refine ⟨o, tg', κ1, ?_, g2, g3, List.mem_append_right _ g4⟩
        rw [show (x - v).toNat = (x - (v + 1)).toNat + 1 by omega]
        simpa using g1
    · cases h0
section SBW
variable {p : Program} {l : Launch} {e : Env} {R : Room} {s : State} {m : MethodId} {args : Array Value} {below : List Frame} {meth : Method} {c : Code} {H : Heap} {locs : List Loc} {cells slots : Nat} {Q : State → Prop}
variable {cc : ByteArray} {pc : Nat} {ls : Array Slot} {rest : List Value} {ρ : List Int} {ads : List Nat} {ex : Nat → Nat} {κ : sCx} {st : List sV} {vs : List Value} {n : Nat}
theorem sIcmp (hx : p.tables.exec = Jvm.exec) (hb : c.code = cc) {k : sCn} {x y : Int32} {off : Int} {tgt : Nat} (hd : decode cc pc = .ok (.if_icmp k off, 3)) (ht : (pc : Int) + off = (tgt : Int))
    (kt : sCnd k x.toInt y.toInt → W p l e R s m args below meth c H locs cells slots Q (F0 m tgt ls rest)) (kf : ¬ sCnd k x.toInt y.toInt → W p l e R s m args below meth c H locs cells slots Q (F0 m (pc + 3) ls rest)) : W p l e R s m args below meth c H locs cells slots Q (F0 m pc ls (.int y :: .int x :: rest)) := by
  cases k
  case eq => exact lv_icmp_eq hx hb hd ht (fun h => kt (by rw [h]; rfl)) (fun h => kf (fun q => h (Int32.toInt_inj.mp q)))
  case ne => exact lv_icmp_ne hx hb hd ht (fun h => kt (fun q => h (Int32.toInt_inj.mp q))) (fun h => kf (fun q => q (by rw [h])))
  case lt => exact lv_icmp_lt hx hb hd ht (fun h => kt (Int32.lt_iff_toInt_lt.mp h)) (fun h => kf (fun q => h (Int32.lt_iff_toInt_lt.mpr q)))
  case ge => exact lv_icmp_ge hx hb hd ht (fun h => kt (Int32.le_iff_toInt_le.mp h)) (fun h => kf (fun q => h (Int32.le_iff_toInt_le.mpr q)))
  case gt => exact lv_icmp_gt hx hb hd ht (fun h => kt (Int32.lt_iff_toInt_lt.mp h)) (fun h => kf (fun q => h (Int32.lt_iff_toInt_lt.mpr q)))
  case le => exact lv_icmp_le hx hb hd ht (fun h => kt (Int32.le_iff_toInt_le.mp h)) (fun h => kf (fun q => h (Int32.le_iff_toInt_le.mpr q)))
theorem sIfc (hx : p.tables.exec = Jvm.exec) (hb : c.code = cc) {k : sCn} {x : Int32} {off : Int} {tgt : Nat} (hd : decode cc pc = .ok (.ifCond k off, 3)) (ht : (pc : Int) + off = (tgt : Int))
    (kt : sCnd k x.toInt (0 : Int32).toInt → W p l e R s m args below meth c H locs cells slots Q (F0 m tgt ls rest)) (kf : ¬ sCnd k x.toInt (0 : Int32).toInt → W p l e R s m args below meth c H locs cells slots Q (F0 m (pc + 3) ls rest)) : W p l e R s m args below meth c H locs cells slots Q (F0 m pc ls (.int x :: rest)) := by
  cases k
  case eq => exact lv_if_eq hx hb hd ht (fun h => kt (by rw [h]; rfl)) (fun h => kf (fun q => h (Int32.toInt_inj.mp q)))
  case ne => exact lv_if_ne hx hb hd ht (fun h => kt (fun q => h (Int32.toInt_inj.mp q))) (fun h => kf (fun q => q (by rw [h])))
  case lt => exact lv_if_lt hx hb hd ht (fun h => kt (Int32.lt_iff_toInt_lt.mp h)) (fun h => kf (fun q => h (Int32.lt_iff_toInt_lt.mpr q)))
  case ge => exact lv_if_ge hx hb hd ht (fun h => kt (Int32.le_iff_toInt_le.mp h)) (fun h => kf (fun q => h (Int32.le_iff_toInt_le.mpr q)))
  case gt => exact lv_if_gt hx hb hd ht (fun h => kt (Int32.lt_iff_toInt_lt.mp h)) (fun h => kf (fun q => h (Int32.lt_iff_toInt_lt.mpr q)))
  case le => exact lv_if_le hx hb hd ht (fun h => kt (Int32.le_iff_toInt_le.mp h)) (fun h => kf (fun q => h (Int32.le_iff_toInt_le.mpr q)))
theorem sIf_ok (hs : sCok ρ κ) {k : sCn} {off : Int} {a b : sV} {r : List sV} {va vb : Value} (ha : sRep ρ ads ex a va) (hb2 : sRep ρ ads ex b vb) (hS : sA2 (sRep ρ ads ex) r rest) {nx : List sNx} (h : sIf k off κ pc n a b r = some nx)
    (kk : ∀ q ∈ nx, ∀ vs' : List Value, sCok ρ q.1 → sA2 (sRep ρ ads ex) q.2.2 vs' → W p l e R s m args below meth c H locs cells slots Q (F0 m q.2.1 ls vs')) :
    n = 3 ∧ ∃ (x y : Int32) (t : Nat), va = .int x ∧ vb = .int y ∧ (pc : Int) + off = (t : Int) ∧ (sCnd k x.toInt y.toInt → W p l e R s m args below meth c H locs cells slots Q (F0 m t ls rest)) ∧ (¬ sCnd k x.toInt y.toInt → W p l e R s m args below meth c H locs cells slots Q (F0 m (pc + 3) ls rest)) := by
  unfold sIf at h
  split at h
  · rename_i hk
    obtain ⟨k1, k2, hn⟩ := hk
    split at h
    · rename_i t qa qb ht ra rb
      split at h
      · rename_i es fs he hf
        cases h
        obtain ⟨u, rfl, hu⟩ := sRep_int ha k1
        obtain ⟨w, rfl, hw⟩ := sRep_int hb2 k2
        obtain ⟨-, -, iu⟩ := sRg_ev (lo := qa.1) (hi := qa.2) hs.1 hu ra
        obtain ⟨-, -, iw⟩ := sRg_ev (lo := qb.1) (hi := qb.2) hs.1 hw rb
        have eu := sI_toInt iu
        have ew := sI_toInt iw
        refine ⟨hn, _, _, t, rfl, rfl, sTg_ok ht, fun hc => ?_, fun hc => ?_⟩
        · rw [eu, ew] at hc
          obtain ⟨κ', hκ, hs'⟩ := sRf_ok hs (sN_ev hs.1 hu) (sN_ev hs.1 hw) iu iw hc he
          exact kk _ (List.mem_append_left _ (List.mem_map.mpr ⟨κ', hκ, rfl⟩)) _ hs' hS
        · rw [eu, ew] at hc
          obtain ⟨κ', hκ, hs'⟩ := sRf_ok hs (sN_ev hs.1 hu) (sN_ev hs.1 hw) iu iw ((sNeg_iff k _ _).mpr hc) hf
          exact kk _ (List.mem_append_right _ (List.mem_map.mpr ⟨κ', hκ, rfl⟩)) _ hs' hS
      · cases h
    · cases h
  · cases h
set_option maxHeartbeats 4000000 in
theorem sBr_ok (hx : p.tables.exec = Jvm.exec) (hb : c.code = cc) (hs : sCok ρ κ) (hS : sA2 (sRep ρ ads ex) st vs) {ins : Instr} (hd : decode cc pc = .ok (ins, n)) {nx : List sNx} (h : sBr κ pc n ins st = some nx)
    (k : ∀ q ∈ nx, ∀ vs' : List Value, sCok ρ q.1 → sA2 (sRep ρ ads ex) q.2.2 vs' → W p l e R s m args below meth c H locs cells slots Q (F0 m q.2.1 ls vs')) : W p l e R s m args below meth c H locs cells slots Q (F0 m pc ls vs) := by
  cases ins
  case goto off =>
    simp only [sBr] at h
    split at h
    · rename_i hn
      subst hn
      obtain ⟨t, ht, he⟩ := Option.map_eq_some_iff.mp h
      subst he
      exact lv_goto hx hb hd (sTg_ok ht) (k _ List.mem_cons_self _ hs hS)
    · cases h
  case ifCond cn off =>
    obtain ⟨a, r, hst, hz⟩ := s1_some h
    subst hst
    obtain ⟨va, rest, rfl, ha, hS1⟩ := sA2_cons hS
    obtain ⟨rfl, x, y, t, rfl, e2, ht, kt, kf⟩ := sIf_ok hs ha (show sRep ρ ads ex (0, 0) (.int 0) from rfl) hS1 hz k
    cases e2
    exact sIfc hx hb hd ht kt kf
  case if_icmp cn off =>
    obtain ⟨a, b, r, hst, hz⟩ := s2_some h
    subst hst
    obtain ⟨vb, vs1, rfl, h1, hS1⟩ := sA2_cons hS
    obtain ⟨va, rest, rfl, h2, hS2⟩ := sA2_cons hS1
    obtain ⟨rfl, x, y, t, rfl, rfl, ht, kt, kf⟩ := sIf_ok hs h2 h1 hS2 hz k
    exact sIcmp hx hb hd ht kt kf
  case lcmp =>
    obtain ⟨a, b, r, hst, hz⟩ := s2_some h
    subst hst
    obtain ⟨vb, vs1, rfl, h1, hS1⟩ := sA2_cons hS
    obtain ⟨va, rest, rfl, h2, hS2⟩ := sA2_cons hS1
    unfold sL3 at hz
    split at hz
    · rename_i hk
      obtain ⟨k1, k2, hn⟩ := hk
      subst hn
      split at hz
      · rename_i qa qb ra rb
        split at hz
        · rename_i lx ly lz ex1 ey ez
          cases hz
          obtain ⟨u, rfl, hu⟩ := sRep_long h2 k1
          obtain ⟨w, rfl, hw⟩ := sRep_long h1 k2
          have hu' := sToI_ev k1 hu
          have hw' := sToI_ev k2 hw
          obtain ⟨-, -, iu⟩ := sRg_ev (lo := qa.1) (hi := qa.2) hs.1 hu' ra
          obtain ⟨-, -, iw⟩ := sRg_ev (lo := qb.1) (hi := qb.2) hs.1 hw' rb
          refine W.lcmp hx hb hd ?_
          rw [sCmp _ _ u w (sI64 iu) (sI64 iw)]
          rcases (by omega : w < u ∨ u = w ∨ u < w) with q | q | q
          · obtain ⟨κ', hκ, hs'⟩ := sRf_ok (c := .gt) hs hu' hw' iu iw q ex1
            rw [if_pos q]
            exact k _ (List.mem_append_left _ (List.mem_map.mpr ⟨κ', hκ, rfl⟩)) _ hs' ⟨rfl, hS2⟩
          · obtain ⟨κ', hκ, hs'⟩ := sRf_ok (c := .eq) hs hu' hw' iu iw q ey
            rw [if_neg (by omega), if_pos q]
            exact k _ (List.mem_append_right _ (List.mem_append_left _ (List.mem_map.mpr ⟨κ', hκ, rfl⟩))) _ hs' ⟨rfl, hS2⟩
          · obtain ⟨κ', hκ, hs'⟩ := sRf_ok (c := .lt) hs hu' hw' iu iw q ez
            rw [if_neg (by omega), if_neg (by omega)]
            exact k _ (List.mem_append_right _ (List.mem_append_right _ (List.mem_map.mpr ⟨κ', hκ, rfl⟩))) _ hs' ⟨rfl, hS2⟩
        · cases hz
      · cases hz
    · cases hz
  case tableswitch d lo hi offs =>
    obtain ⟨a, r, hst, hz⟩ := s1_some h
    subst hst
    obtain ⟨va, rest, rfl, ha, hS1⟩ := sA2_cons hS
    unfold sTab at hz
    split at hz
    · rename_i hk
      obtain ⟨k1, hlen⟩ := hk
      split at hz
      · rename_i td qa q l1 l2 htd ra hq e1 e2
        cases hz
        obtain ⟨u, rfl, hu⟩ := sRep_int ha k1
        obtain ⟨-, -, iu⟩ := sRg_ev (lo := qa.1) (hi := qa.2) hs.1 hu ra
        have eu := sI_toInt iu
        rw [sI_iff] at iu
        by_cases hlo : u < lo
        · obtain ⟨κ1, g1, he1⟩ := sCut_ok hs hu iu.1 (by omega) e1
          cases he1
          exact lv_tableOut hx hb hd (Or.inl (by rw [eu]; exact hlo)) (sTg_ok htd) (k _ (List.mem_append_left _ (List.mem_map.mpr ⟨κ1, by simp, rfl⟩)) _ g1 hS1)
        · by_cases hhi : hi < u
          · obtain ⟨κ1, g1, he1⟩ := sCut_ok hs hu (by omega) iu.2 e2
            cases he1
            exact lv_tableOut hx hb hd (Or.inr (by rw [eu]; exact hhi)) (sTg_ok htd) (k _ (List.mem_append_left _ (List.mem_map.mpr ⟨κ1, by simp, rfl⟩)) _ g1 hS1)
          · obtain ⟨off, t, κ1, g1, g2, g3, g4⟩ := sTabM_ok hs hu lo offs.toList q hq (by omega) (by omega)
            exact lv_tableIn hx hb hd (by rw [eu]; exact hlo) (by rw [eu]; exact hhi) (by rw [eu, ← Array.getElem?_toList]; exact g1) (sTg_ok g2) (k _ (List.mem_append_right _ g4) _ g3 hS1)
      · cases hz
    · cases hz
  all_goals exact absurd h (by simp [sBr])
end SBW
end
