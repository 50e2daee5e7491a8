noncomputable section
/-! ===== who is named is told: every agent that a line, a grudge, a secret names stands among the agents ===== -/
def tLt (n : Nat) (v : Int) : Prop := 0 ≤ v ∧ v < (n : Int)
def tBnd (tb : tTb) : Prop := (∀ q ∈ tb.2.1, tLt tb.1.length q.1 ∧ tLt tb.1.length q.2) ∧ (∀ q ∈ tb.2.2.2.2.1, tLt tb.1.length q.1 ∧ tLt tb.1.length q.2) ∧ ∀ q ∈ tb.2.2.2.1, tLt tb.1.length q.2.2
def tPl (K : List (Nat × Nat)) : Prop := ∀ y ∈ K, y.1 ≠ 23 ∧ y.1 ≠ 24 ∧ y.1 ≠ 25
/-- what is still to be read: nothing that waits for an agent, or an agent's number ahead of a second one, or the second one -/
def tWf (K : List (Nat × Nat)) (nu : List Int) (tb : tTb) : Prop := tPl K ∨ (∃ r i r' K', K = (23, r) :: (i, r') :: K' ∧ (i = 24 ∨ i = 25) ∧ tPl K' ∧ nu = []) ∨ ∃ i r' K', K = (i, r') :: K' ∧ (i = 24 ∨ i = 25) ∧ tPl K' ∧ tLt tb.1.length (nu.getD 0 0)
def tInv (c : tCf) : Prop := tBnd c.2.2.2.1 ∧ (c.2.2.2.2 = 0 → tWf c.2.1 c.2.2.1 c.2.2.2.1)
theorem tPl_nil : tPl [] := fun y hy => by cases hy
def tPb (y : Nat × Nat) : Bool := !(Nat.beq y.1 23) && (!(Nat.beq y.1 24) && !(Nat.beq y.1 25))
theorem tPl_cons {y : Nat × Nat} {K : List (Nat × Nat)} (h : tPb y = true) (t : tPl K) : tPl (y :: K) := fun z hz => by
  rcases List.mem_cons.mp hz with rfl | hz
  · unfold tPb at h
    simp only [Bool.and_eq_true, Bool.not_eq_true'] at h
    exact ⟨Nat.ne_of_beq_eq_false h.1, Nat.ne_of_beq_eq_false h.2.1, Nat.ne_of_beq_eq_false h.2.2⟩
  · exact t z hz
theorem tPl_app {K : List (Nat × Nat)} : ∀ {L : List (Nat × Nat)}, L.all tPb = true → tPl K → tPl (L ++ K)
  | [], _, t => t
  | y :: L, h, t => by
    rw [List.all_cons, Bool.and_eq_true] at h
    exact tPl_cons h.1 (tPl_app h.2 t)
theorem tPl_tl {y : Nat × Nat} {K : List (Nat × Nat)} (h : tPl (y :: K)) : tPl K := fun z hz => h z (List.mem_cons_of_mem _ hz)
theorem tLt_mono {n m : Nat} {v : Int} (h : tLt n v) (hm : n ≤ m) : tLt m v := ⟨h.1, by have := h.2; omega⟩
theorem tAg_lt {T : Nat → Int} {n p ag : Nat} (h : tAg T n p ag = 0) : tLt ag (tNv T n p) := by
  unfold tAg at h
  split at h
  · rename_i h0
    split at h
    · rename_i h1
      refine ⟨?_, h1⟩
      unfold tNum at h0
      split at h0
      · split at h0
        · cases h0
        · split at h0
          · rename_i h2
            exact h2.1
          · cases h0
      · cases h0
    · cases h
  · rename_i h0
    exact absurd h h0
theorem tPg_inv {T : Nat → Int} {n p : Nat} {K : List (Nat × Nat)} {nu : List Int} {tb : tTb} (hb : tBnd tb) (hK : tPl K) : tInv (tPg T n p K nu tb) := by
  unfold tPg
  repeat' split
  all_goals first
    | exact ⟨hb, fun _ => Or.inl hK⟩
    | (refine ⟨hb, fun q => ?_⟩; cases q; done)
    | (refine ⟨hb, fun _ => Or.inl ?_⟩; (first | exact hK | (refine tPl_app (L := [_]) ?_ hK; rfl) | (refine tPl_app (L := [_, _]) ?_ hK; rfl) | (refine tPl_app (L := [_, _, _]) ?_ hK; rfl) | (refine tPl_app (L := [_, _, _, _]) ?_ hK; rfl) | (refine tPl_app (L := [_, _, _, _, _]) ?_ hK; rfl) | (refine tPl_app (L := [_, _, _, _, _, _]) ?_ hK; rfl)))
    | (refine ⟨hb, fun _ => Or.inr (Or.inl ⟨_, _, _, _, rfl, Or.inl rfl, ?_, rfl⟩)⟩; (first | exact hK | (refine tPl_app (L := [_]) ?_ hK; rfl) | (refine tPl_app (L := [_, _]) ?_ hK; rfl) | (refine tPl_app (L := [_, _, _]) ?_ hK; rfl) | (refine tPl_app (L := [_, _, _, _]) ?_ hK; rfl) | (refine tPl_app (L := [_, _, _, _, _]) ?_ hK; rfl) | (refine tPl_app (L := [_, _, _, _, _, _]) ?_ hK; rfl)))
    | (refine ⟨hb, fun _ => Or.inr (Or.inl ⟨_, _, _, _, rfl, Or.inr rfl, ?_, rfl⟩)⟩; (first | exact hK | (refine tPl_app (L := [_]) ?_ hK; rfl) | (refine tPl_app (L := [_, _]) ?_ hK; rfl) | (refine tPl_app (L := [_, _, _]) ?_ hK; rfl) | (refine tPl_app (L := [_, _, _, _]) ?_ hK; rfl) | (refine tPl_app (L := [_, _, _, _, _]) ?_ hK; rfl) | (refine tPl_app (L := [_, _, _, _, _, _]) ?_ hK; rfl)))
theorem tBnd_ag {tb : tTb} {q : Int × Int × Int × Int} (h : tBnd tb) : tBnd (tb.1 ++ [q], tb.2) := by
  have e : tb.1.length ≤ (tb.1 ++ [q]).length := by rw [List.length_append]; omega
  exact ⟨fun x hx => ⟨tLt_mono (h.1 x hx).1 e, tLt_mono (h.1 x hx).2 e⟩, fun x hx => ⟨tLt_mono (h.2.1 x hx).1 e, tLt_mono (h.2.1 x hx).2 e⟩, fun x hx => tLt_mono (h.2.2 x hx) e⟩
theorem tMem1 {α : Type} {l : List α} {a : α} {P : α → Prop} (h : ∀ q ∈ l, P q) (ha : P a) : ∀ q ∈ l ++ [a], P q := fun q hq => by
  rcases List.mem_append.mp hq with hq | hq
  · exact h q hq
  · rw [List.mem_singleton] at hq
    rw [hq]
    exact ha
/-- a symbol that waits for no agent -/
theorem tSy_pl {T : Nat → Int} {n p : Nat} {y : Nat × Nat} {K : List (Nat × Nat)} {nu : List Int} {tb : tTb} (hb : tBnd tb) (hy : y.1 ≠ 23 ∧ y.1 ≠ 24 ∧ y.1 ≠ 25) (hK : tPl K) : tInv (tSy T n p y K nu tb) := by
  unfold tSy
  split
  all_goals first
    | exact absurd rfl hy.1
    | exact absurd rfl hy.2.1
    | exact absurd rfl hy.2.2
    | skip
  all_goals repeat' split
  all_goals first
    | exact tPg_inv hb hK
    | exact ⟨hb, fun _ => Or.inl hK⟩
    | (refine ⟨hb, fun q => ?_⟩; cases q; done)
    | (refine ⟨hb, fun q => absurd q ?_⟩; assumption)
    | (refine ⟨hb, fun _ => Or.inl ?_⟩; (first | exact hK | (refine tPl_app (L := [_]) ?_ hK; rfl) | (refine tPl_app (L := [_, _]) ?_ hK; rfl) | (refine tPl_app (L := [_, _, _]) ?_ hK; rfl) | (refine tPl_app (L := [_, _, _, _]) ?_ hK; rfl) | (refine tPl_app (L := [_, _, _, _, _]) ?_ hK; rfl) | (refine tPl_app (L := [_, _, _, _, _, _]) ?_ hK; rfl)))
    | exact ⟨tBnd_ag hb, fun _ => Or.inl hK⟩
    | (rename_i h; exact ⟨⟨hb.1, hb.2.1, tMem1 hb.2.2 (tAg_lt h)⟩, fun _ => Or.inl hK⟩)
    | exact ⟨⟨hb.1, hb.2.1, hb.2.2⟩, fun _ => Or.inl hK⟩
theorem tSt_inv {T : Nat → Int} {n : Nat} {c c' : tCf} (h : tSt T n c = some c') (hi : tInv c) : tInv c' := by
  unfold tSt at h
  split at h
  · rename_i p y K nu tb
    cases h
    obtain ⟨hb, hw⟩ := hi
    have hb : tBnd tb := hb
    rcases hw rfl with hw | ⟨r, i, r', K', e, hi, hp, hn⟩ | ⟨i, r', K', e, hi, hp, hn⟩
    · exact tSy_pl hb (hw y List.mem_cons_self) (tPl_tl hw)
    · cases e
      have hn : nu = [] := hn
      subst hn
      show tInv (tSy T n p (23, r) ((i, r') :: K') [] tb)
      unfold tSy
      simp only
      split
      · rename_i h
        exact ⟨hb, fun _ => Or.inr (Or.inr ⟨_, _, _, rfl, hi, hp, tAg_lt h⟩)⟩
      · rename_i h
        exact ⟨hb, fun q => absurd q h⟩
    · cases e
      have hn : tLt tb.1.length (nu.getD 0 0) := hn
      rcases hi with rfl | rfl
      · show tInv (tSy T n p (24, r') K nu tb)
        unfold tSy
        simp only
        split
        · rename_i h
          split
          · exact ⟨hb, fun q => nomatch q⟩
          · exact ⟨⟨tMem1 hb.1 ⟨hn, tAg_lt h⟩, hb.2.1, hb.2.2⟩, fun _ => Or.inl hp⟩
        · rename_i h
          exact ⟨hb, fun q => absurd q h⟩
      · show tInv (tSy T n p (25, r') K nu tb)
        unfold tSy
        simp only
        split
        · rename_i h
          split
          · exact ⟨hb, fun q => nomatch q⟩
          · exact ⟨⟨hb.1, tMem1 hb.2.1 ⟨hn, tAg_lt h⟩, hb.2.2⟩, fun _ => Or.inl hp⟩
        · rename_i h
          exact ⟨hb, fun q => absurd q h⟩
  · cases h
theorem tIt_inv {T : Nat → Int} {n : Nat} : ∀ (k : Nat) (c c' : tCf), tIt T n k c = some c' → tInv c → tInv c'
  | 0, c, c', h, hi => by
    cases h
    exact hi
  | k + 1, c, c', h, hi => by
    simp only [tIt] at h
    cases e : tSt T n c with
    | none => rw [e] at h; cases h
    | some c1 =>
      rw [e] at h
      exact tIt_inv k c1 c' h (tSt_inv e hi)
theorem tRe_inv {T : Nat → Int} {n : Nat} {c c' : tCf} (h : tRe T n c c') (hi : tInv c) : tInv c' := by
  obtain ⟨k, hk⟩ := h
  exact tIt_inv k _ _ hk hi
theorem tI_inv {T : Nat → Int} {n : Nat} : tInv (tI T n) := ⟨⟨fun q hq => (by cases hq), fun q hq => (by cases hq), fun q hq => (by cases hq)⟩, fun _ => Or.inl (tPl_cons rfl tPl_nil)⟩
/-- a column's entry is one of the last configuration's -/
theorem tRow_last {T : Nat → Int} {n p id j : Nat} {nu : List Int} {tb : tTb} {v : Int} (h : tRe T n (tI T n) (p, [], nu, tb, 0)) (hr : tRow T n id j v) : tCol id tb j = some v := by
  obtain ⟨c, r, hc⟩ := hr
  rcases tRe_cmp r h with q | q
  · exact tCol_px (tRe_px q) hc
  · have := tRe_end q tStA
    subst this
    exact hc
theorem tGe {α : Type} {l : List α} {i : Nat} {a : α} (h : l[i]? = some a) : a ∈ l := List.mem_of_getElem? h
theorem q_rb {L : Nat} {sc : Nat → Int32} {ru : Nat} {p a b d se gr v : Int} {id j : Nat} (hid : id = 0 ∨ id = 1 ∨ id = 2 ∨ id = 3 ∨ id = 11) (h : gQ1 L sc [12, ru] [p, a, b, d, se, gr]) (hr : tRow (gT L sc) (gN L sc) id j v) : 0 ≤ v ∧ v < a := by
  obtain ⟨-, h0, -, -, -, -, tb, hre, hct⟩ := h
  have hb := (tRe_inv hre tI_inv).1
  have hl : tb.1.length = a.toNat := by
    have := congrArg (fun l => l.getD 0 0) hct
    exact this
  have hc := tRow_last hre hr
  have fin : tLt tb.1.length v → 0 ≤ v ∧ v < a := fun q => ⟨q.1, by have := q.2; omega⟩
  rcases hid with rfl | rfl | rfl | rfl | rfl
  · obtain ⟨q, hq, rfl⟩ := Option.map_eq_some_iff.mp hc
    exact fin (hb.1 q (tGe hq)).1
  · obtain ⟨q, hq, rfl⟩ := Option.map_eq_some_iff.mp hc
    exact fin (hb.1 q (tGe hq)).2
  · obtain ⟨q, hq, rfl⟩ := Option.map_eq_some_iff.mp hc
    exact fin (hb.2.1 q (tGe hq)).1
  · obtain ⟨q, hq, rfl⟩ := Option.map_eq_some_iff.mp hc
    exact fin (hb.2.1 q (tGe hq)).2
  · obtain ⟨q, hq, rfl⟩ := Option.map_eq_some_iff.mp hc
    exact fin (hb.2.2 q (tGe hq))
end
