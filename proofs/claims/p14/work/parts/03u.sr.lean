noncomputable section
/-! ===== the machine from its start: tables only grow, ends are one ===== -/
def tI (T : Nat → Int) (n : Nat) : tCf := (tE T n 0 0, [(20, 0)], [], ([], [], [], [], [], false), 0)
def tPx (a b : tTb) : Prop := a.1 <+: b.1 ∧ a.2.1 <+: b.2.1 ∧ a.2.2.1 <+: b.2.2.1 ∧ a.2.2.2.1 <+: b.2.2.2.1 ∧ a.2.2.2.2.1 <+: b.2.2.2.2.1
theorem tPx_rfl {a : tTb} : tPx a a := ⟨List.prefix_rfl, List.prefix_rfl, List.prefix_rfl, List.prefix_rfl, List.prefix_rfl⟩
theorem tPx_trans {a b c : tTb} (h1 : tPx a b) (h2 : tPx b c) : tPx a c := ⟨h1.1.trans h2.1, h1.2.1.trans h2.2.1, h1.2.2.1.trans h2.2.2.1, h1.2.2.2.1.trans h2.2.2.2.1, h1.2.2.2.2.trans h2.2.2.2.2⟩
theorem tPg_px {T : Nat → Int} {n p : Nat} {K : List (Nat × Nat)} {nu : List Int} {tb : tTb} : tPx tb (tPg T n p K nu tb).2.2.2.1 := by
  unfold tPg
  repeat' split
  all_goals first
    | exact tPx_rfl
    | exact ⟨List.prefix_rfl, List.prefix_rfl, List.prefix_rfl, List.prefix_rfl, List.prefix_rfl⟩
theorem tSy_px {T : Nat → Int} {n p : Nat} {y : Nat × Nat} {K : List (Nat × Nat)} {nu : List Int} {tb : tTb} : tPx tb (tSy T n p y K nu tb).2.2.2.1 := by
  unfold tSy
  split
  all_goals repeat' split
  all_goals first
    | exact tPx_rfl
    | exact tPg_px
    | exact ⟨List.prefix_append _ _, List.prefix_rfl, List.prefix_rfl, List.prefix_rfl, List.prefix_rfl⟩
    | exact ⟨List.prefix_rfl, List.prefix_append _ _, List.prefix_rfl, List.prefix_rfl, List.prefix_rfl⟩
    | exact ⟨List.prefix_rfl, List.prefix_rfl, List.prefix_append _ _, List.prefix_rfl, List.prefix_rfl⟩
    | exact ⟨List.prefix_rfl, List.prefix_rfl, List.prefix_rfl, List.prefix_append _ _, List.prefix_rfl⟩
    | exact ⟨List.prefix_rfl, List.prefix_rfl, List.prefix_rfl, List.prefix_rfl, List.prefix_append _ _⟩
theorem tSt_px {T : Nat → Int} {n : Nat} {c c' : tCf} (h : tSt T n c = some c') : tPx c.2.2.2.1 c'.2.2.2.1 := by
  unfold tSt at h
  split at h
  · cases h
    exact tSy_px
  · cases h
theorem tIt_px {T : Nat → Int} {n : Nat} : ∀ (k : Nat) (c c' : tCf), tIt T n k c = some c' → tPx c.2.2.2.1 c'.2.2.2.1
  | 0, c, c', h => by
    cases h
    exact tPx_rfl
  | k + 1, c, c', h => by
    simp only [tIt] at h
    cases e : tSt T n c with
    | none => rw [e] at h; cases h
    | some c1 =>
      rw [e] at h
      exact tPx_trans (tSt_px e) (tIt_px k c1 c' h)
theorem tRe_px {T : Nat → Int} {n : Nat} {c c' : tCf} (h : tRe T n c c') : tPx c.2.2.2.1 c'.2.2.2.1 := by
  obtain ⟨k, hk⟩ := h
  exact tIt_px k _ _ hk
/-- a column of what is told: 0, 1 a line's two, 2, 3 a grudge's two, 4 days, 5 to 8 an agent's four, 9 to 11 a secret's three -/
def tCol (id : Nat) (tb : tTb) (j : Nat) : Option Int := match id with
  | 0 => (tb.2.1[j]?).map fun q => q.1
  | 1 => (tb.2.1[j]?).map fun q => q.2
  | 2 => (tb.2.2.2.2.1[j]?).map fun q => q.1
  | 3 => (tb.2.2.2.2.1[j]?).map fun q => q.2
  | 4 => tb.2.2.1[j]?
  | 5 => (tb.1[j]?).map fun q => q.1
  | 6 => (tb.1[j]?).map fun q => q.2.1
  | 7 => (tb.1[j]?).map fun q => q.2.2.1
  | 8 => (tb.1[j]?).map fun q => q.2.2.2
  | 9 => (tb.2.2.2.1[j]?).map fun q => q.1
  | 10 => (tb.2.2.2.1[j]?).map fun q => q.2.1
  | 11 => (tb.2.2.2.1[j]?).map fun q => q.2.2
  | _ => none
theorem tGp {α : Type} {l l' : List α} (hp : l <+: l') {i : Nat} {a : α} (h : l[i]? = some a) : l'[i]? = some a := by
  obtain ⟨r, rfl⟩ := hp
  have hl := (List.getElem?_eq_some_iff.mp h).1
  rw [List.getElem?_append_left hl]
  exact h
theorem tGm {α β : Type} {l l' : List α} {f : α → β} (hp : l <+: l') {i : Nat} {v : β} (h : (l[i]?).map f = some v) : (l'[i]?).map f = some v := by
  obtain ⟨a, ha, rfl⟩ := Option.map_eq_some_iff.mp h
  rw [tGp hp ha]
  rfl
theorem tCol_px {a b : tTb} (h : tPx a b) {id j : Nat} {v : Int} (hc : tCol id a j = some v) : tCol id b j = some v := by
  obtain ⟨h1, h2, h3, h4, h5⟩ := h
  unfold tCol at hc ⊢
  split at hc
  · exact tGm h2 hc
  · exact tGm h2 hc
  · exact tGm h5 hc
  · exact tGm h5 hc
  · exact tGp h3 hc
  · exact tGm h1 hc
  · exact tGm h1 hc
  · exact tGm h1 hc
  · exact tGm h1 hc
  · exact tGm h4 hc
  · exact tGm h4 hc
  · exact tGm h4 hc
  · cases hc
/-- the j-th entry of a column, as it is told at some time -/
def tRow (T : Nat → Int) (n id j : Nat) (v : Int) : Prop := ∃ c, tRe T n (tI T n) c ∧ tCol id c.2.2.2.1 j = some v
theorem tRow_uniq {T : Nat → Int} {n id j : Nat} {v w : Int} (h1 : tRow T n id j v) (h2 : tRow T n id j w) : v = w := by
  obtain ⟨a, ra, ha⟩ := h1
  obtain ⟨b, rb, hb⟩ := h2
  rcases tRe_cmp ra rb with r | r
  · have := tCol_px (tRe_px r) ha
    rw [hb] at this
    exact (Option.some.inj this).symm
  · have := tCol_px (tRe_px r) hb
    rw [ha] at this
    exact Option.some.inj this
def tCt (tb : tTb) : List Nat := [tb.1.length, tb.2.1.length, tb.2.2.1.length, tb.2.2.2.1.length, tb.2.2.2.2.1.length, if tb.2.2.2.2.2 = true then 1 else 0]
/-- the machine comes to a token's place with so much to be read, so many told -/
def tG (T : Nat → Int) (n p : Nat) (st : List (Nat × Nat)) (nu : List Int) (ct : List Nat) : Prop := ∃ tb, tRe T n (tI T n) (p, st, nu, tb, 0) ∧ tCt tb = ct
def tF (T : Nat → Int) (n cd pl : Nat) : Prop := cd ≠ 0 ∧ ∃ K nu tb, tRe T n (tI T n) (pl, K, nu, tb, cd)
def tEnd (T : Nat → Int) (n : Nat) (cd pl : Int) : Prop := (cd = 0 ∧ pl = -1 ∧ ∃ p nu tb, tRe T n (tI T n) (p, [], nu, tb, 0)) ∨ ∃ c p : Nat, cd = c ∧ pl = p ∧ tF T n c p
theorem tStB {T : Nat → Int} {n p : Nat} {K : List (Nat × Nat)} {nu : List Int} {tb : tTb} {cd : Nat} (h : cd ≠ 0) : tSt T n (p, K, nu, tb, cd) = none := by
  unfold tSt
  split
  · rename_i e
    cases e
    exact absurd rfl h
  · rfl
theorem tStA {T : Nat → Int} {n p : Nat} {nu : List Int} {tb : tTb} {cd : Nat} : tSt T n (p, [], nu, tb, cd) = none := by
  unfold tSt
  split
  · rename_i e
    cases e
  · rfl
theorem tEnd_uniq {T : Nat → Int} {n : Nat} {cd pl cd' pl' : Int} (h1 : tEnd T n cd pl) (h2 : tEnd T n cd' pl') : cd = cd' ∧ pl = pl' := by
  rcases h1 with ⟨a1, a2, p, nu, tb, r⟩ | ⟨c, p, a1, a2, hc, K, nu, tb, r⟩
  · rcases h2 with ⟨b1, b2, -⟩ | ⟨c', p', b1, b2, hc', K', nu', tb', r'⟩
    · exact ⟨a1.trans b1.symm, a2.trans b2.symm⟩
    · have := tRe_uniq r r' tStA (tStB hc')
      injection this with e1 e2
      injection e2 with e2 e3
      injection e3 with e3 e4
      injection e4 with e4 e5
      exact absurd e5.symm hc'
  · rcases h2 with ⟨b1, b2, p', nu', tb', r'⟩ | ⟨c', p', b1, b2, hc', K', nu', tb', r'⟩
    · have := tRe_uniq r r' (tStB hc) tStA
      injection this with e1 e2
      injection e2 with e2 e3
      injection e3 with e3 e4
      injection e4 with e4 e5
      exact absurd e5 hc
    · have := tRe_uniq r r' (tStB hc) (tStB hc')
      injection this with e1 e2
      injection e2 with e2 e3
      injection e3 with e3 e4
      injection e4 with e4 e5
      subst e1; subst e5
      exact ⟨a1.trans b1.symm, a2.trans b2.symm⟩
theorem tG_start {T : Nat → Int} {n : Nat} : tG T n (tE T n 0 0) [(20, 0)] [] [0, 0, 0, 0, 0, 0] := ⟨_, tRe_rfl, rfl⟩
theorem tG_D {T : Nat → Int} {n p p' : Nat} {s1 s2 K : List (Nat × Nat)} {nu : List Int} {ct : List Nat} (h : tG T n p (s1 ++ K) nu ct) (hd : tD T n p s1 p' s2) : tG T n p' (s2 ++ K) nu ct := by
  obtain ⟨tb, r, hc⟩ := h
  exact ⟨tb, tRe_trans r (hd K nu tb), hc⟩
theorem tG_DB {T : Nat → Int} {n p : Nat} {s1 K : List (Nat × Nat)} {nu : List Int} {ct : List Nat} {cd pl : Nat} (h : tG T n p (s1 ++ K) nu ct) (hd : tDB T n p s1 cd pl) : tF T n cd pl := by
  obtain ⟨tb, r, hc⟩ := h
  obtain ⟨K', r'⟩ := hd.2 K nu tb
  exact ⟨hd.1, K', nu, tb, tRe_trans r r'⟩
theorem tGs {T : Nat → Int} {n p : Nat} {y : Nat × Nat} {K : List (Nat × Nat)} {nu : List Int} {tb : tTb} {c : tCf} (r : tRe T n (tI T n) (p, y :: K, nu, tb, 0)) (e : tSy T n p y K nu tb = c) : tRe T n (tI T n) c := tRe_trans r (tRe_one (by simp only [tSt]; rw [e]))
theorem tF_of {T : Nat → Int} {n p cd : Nat} {K : List (Nat × Nat)} {nu : List Int} {tb : tTb} (h : cd ≠ 0) (r : tRe T n (tI T n) (p, K, nu, tb, cd)) : tF T n cd p := ⟨h, K, nu, tb, r⟩
end
