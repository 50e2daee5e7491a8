noncomputable section
/-! ===== functions of rows; facts on them, with holes where a row has been written ===== -/
def fI (r : Nat → Int32) (j : Int) : Int := (r j.toNat).toInt
/-- an agent's side once some families have moved -/
def fAf (f s : Nat → Int32) (fs j : Int) : Int := gBo 9 (fI s j) (gBit fs (fI f j))
def fcA (k f s h : Nat → Int32) (fs j : Int) : Int := if fI k j = 4 ∨ fAf f s fs j = fI h j then 1 else 0
def fSA (k f s h : Nat → Int32) (fs : Int) : Nat → Int
  | 0 => 0
  | n + 1 => fSA k f s h fs n + fcA k f s h fs (n : Int)
def fdG (k f s a b : Nat → Int32) (fs i : Int) : Int := if fI k (fI a i) = 4 ∨ fI k (fI b i) = 4 ∨ fAf f s fs (fI a i) = fAf f s fs (fI b i) then 1 else 0
def fSG (k f s a b : Nat → Int32) (fs : Int) : Nat → Int
  | 0 => 0
  | n + 1 => fSG k f s a b fs n + fdG k f s a b fs (n : Int)
def fSW (k f s h a b : Nat → Int32) (n g fs : Int) : Int := fSA k f s h fs n.toNat - fSG k f s a b fs g.toNat
/-- the least of the best below n -/
def fAM (k f s h a b : Nat → Int32) (n g : Int) : Nat → Int
  | 0 => 0
  | m + 1 => if m = 0 then 0 else if fSW k f s h a b n g (fAM k f s h a b n g m) < fSW k f s h a b n g (m : Int) then (m : Int) else fAM k f s h a b n g m
def gF (_T : Nat → Int) (_n : Nat) (id : Nat) (R : List (Nat → Int32)) (cs : List Nat) (zs : List Int) : Prop := match id, R, cs, zs with
  | 1, [k, f, s, h], [], [a, fs, v] => 0 ≤ a ∧ v = fSA k f s h fs a.toNat
  | 2, [k, f, s, h, ga, gb], [], [m, i, fs, v] => 0 ≤ i ∧ v = fSW k f s h ga gb m i fs
  | 3, [k, f], [], [a, fs, t, s] => 0 ≤ a ∧ ∀ j : Nat, j < 8 → gBit t (j : Int) = if (j : Int) < a ∧ fI k (j : Int) ≠ 4 ∧ gBit fs (fI f (j : Int)) = 1 then 1 - gBit s (j : Int) else gBit s (j : Int)
  | 4, [k, f, s, h, ga, gb], [], [m, g, q, b] => 1 ≤ q ∧ b = fAM k f s h ga gb m g q.toNat
  | 5, [r], [], [m, z] => ∀ j : Nat, (j : Int) < m → 0 ≤ fI r (j : Int) ∧ fI r (j : Int) < z
  | 6, [k, f, s, h, ga, gb], [], [m, g, v] => v = fSW k f s h ga gb m g (fAM k f s h ga gb m g 16)
  | 12, [], [], [v, a, y] => gBit v a = y
  | _, _, _, _ => False
/-- ids below 100 don't mind the text -/
def gNt (ps : List Nat) : Bool := match ps with
  | h :: t => (match t.drop h with
    | id :: _ => Nat.ble id 99
    | [] => true)
  | [] => true
theorem gF_T {T T' : Nat → Int} {n n' id : Nat} {R : List (Nat → Int32)} {cs : List Nat} {zs : List Int} (h : gF T n id R cs zs) : gF T' n' id R cs zs := by
  unfold gF at h ⊢
  split at h
  · exact h
  · exact h
  · exact h
  · exact h
  · exact h
  · exact h
  · exact h
  · exact h.elim
def gHo : List Nat → List Int → Nat → Nat → Prop
  | r :: rs, lo :: hi :: pz, q, j => (q = r ∧ lo ≤ (j : Int) ∧ (j : Int) < hi) ∨ gHo rs pz q j
  | _, _, _, _ => False
def gA9 (A : Nat → Nat → Int32) (L : Nat) (sc : Nat → Int32) (ps : List Nat) (zs : List Int) : Prop := match ps with
  | h :: t => (match t.drop h with
    | id :: nr :: q => ∃ B : Nat → Nat → Int32, (∀ r ∈ q.take nr, ∀ j, ¬ gHo (t.take h) (zs.take (2 * h)) r j → B r j = A r j) ∧ gF (gT L sc) (gN L sc) id ((q.take nr).map B) (q.drop nr) (zs.drop (2 * h))
    | _ => False)
  | [] => False
theorem gA9_eq {A : Nat → Nat → Int32} {L : Nat} {sc : Nat → Int32} {h : Nat} {t : List Nat} {zs : List Int} : gA9 A L sc (h :: t) zs = (match t.drop h with
    | id :: nr :: q => ∃ B : Nat → Nat → Int32, (∀ r ∈ q.take nr, ∀ j, ¬ gHo (t.take h) (zs.take (2 * h)) r j → B r j = A r j) ∧ gF (gT L sc) (gN L sc) id ((q.take nr).map B) (q.drop nr) (zs.drop (2 * h))
    | _ => False) := rfl
theorem gA9_0 {A : Nat → Nat → Int32} {L : Nat} {sc : Nat → Int32} {id nr : Nat} {q : List Nat} {zs : List Int} : gA9 A L sc (0 :: id :: nr :: q) zs ↔ gF (gT L sc) (gN L sc) id ((q.take nr).map A) (q.drop nr) zs := by
  constructor
  · rintro ⟨B, h1, h2⟩
    have e : (q.take nr).map B = (q.take nr).map A := List.map_congr_left fun r hr => funext fun j => h1 r hr j (fun q => q)
    rw [← e]
    exact h2
  · intro h
    exact ⟨A, fun _ _ _ _ => rfl, h⟩
/-- the rows that a fact of functions speaks of -/
def sC9 (ps : List Nat) : List Nat := match ps with
  | h :: t => (match t.drop h with
    | _ :: nr :: q => q.take nr
    | _ => [])
  | [] => []
theorem gA9_cells {A A' : Nat → Nat → Int32} {L : Nat} {sc : Nat → Int32} {ps : List Nat} {zs : List Int} (hc : ∀ k ∈ sC9 ps, A' k = A k) (h : gA9 A L sc ps zs) : gA9 A' L sc ps zs := by
  cases ps with
  | nil => exact h
  | cons hh t =>
    unfold sC9 at hc
    unfold gA9 at h ⊢
    simp only at hc h ⊢
    generalize t.drop hh = d at h hc ⊢
    match d, h, hc with
    | [], h, _ => exact h
    | [_], h, _ => exact h
    | id :: nr :: q, h, hc =>
      obtain ⟨B, h1, h2⟩ := h
      exact ⟨B, fun r hr j hn => by rw [hc r hr]; exact h1 r hr j hn, h2⟩
/-- what is written between two places of a row is a hole -/
theorem gA9_store {A A' : Nat → Nat → Int32} {L : Nat} {sc : Nat → Int32} {hh k : Nat} {lo hi : Int} {t : List Nat} {zs : List Int} (hO : ∀ r i : Nat, (r = k → ¬ (lo ≤ (i : Int) ∧ (i : Int) < hi)) → A' r i = A r i) (h : gA9 A L sc (hh :: t) zs) : gA9 A' L sc ((hh + 1) :: k :: t) (lo :: hi :: zs) := by
  rw [gA9_eq] at h ⊢
  rw [show 2 * (hh + 1) = 2 * hh + 1 + 1 by omega]
  simp only [List.drop_succ_cons, List.take_succ_cons]
  generalize t.drop hh = d at h ⊢
  match d, h with
  | [], h => exact h
  | [_], h => exact h
  | id :: nr :: q, h =>
    obtain ⟨B, h1, h2⟩ := h
    refine ⟨B, fun r hr i hn => ?_, h2⟩
    have hn' : ¬ ((r = k ∧ lo ≤ (i : Int) ∧ (i : Int) < hi) ∨ gHo (t.take hh) (zs.take (2 * hh)) r i) := hn
    rw [hO r i (fun e1 e2 => hn' (Or.inl ⟨e1, e2⟩))]
    exact h1 r hr i (fun q => hn' (Or.inr q))
/-! ### what the functions' steps are -/
theorem fSA_succ {k f s h : Nat → Int32} {fs a : Int} (ha : 0 ≤ a) : fSA k f s h fs (a + 1).toNat = fSA k f s h fs a.toNat + fcA k f s h fs a := by
  rw [show (a + 1).toNat = a.toNat + 1 by omega]
  show fSA k f s h fs a.toNat + fcA k f s h fs (a.toNat : Int) = _
  rw [show ((a.toNat : Nat) : Int) = a by omega]
theorem fSG_succ {k f s a b : Nat → Int32} {fs i : Int} (hi : 0 ≤ i) : fSG k f s a b fs (i + 1).toNat = fSG k f s a b fs i.toNat + fdG k f s a b fs i := by
  rw [show (i + 1).toNat = i.toNat + 1 by omega]
  show fSG k f s a b fs i.toNat + fdG k f s a b fs (i.toNat : Int) = _
  rw [show ((i.toNat : Nat) : Int) = i by omega]
theorem fAM_succ {k f s h a b : Nat → Int32} {n g q : Int} (hq : 1 ≤ q) : fAM k f s h a b n g (q + 1).toNat = if fSW k f s h a b n g (fAM k f s h a b n g q.toNat) < fSW k f s h a b n g q then q else fAM k f s h a b n g q.toNat := by
  rw [show (q + 1).toNat = q.toNat + 1 by omega]
  show (if q.toNat = 0 then 0 else if fSW k f s h a b n g (fAM k f s h a b n g q.toNat) < fSW k f s h a b n g ((q.toNat : Nat) : Int) then ((q.toNat : Nat) : Int) else fAM k f s h a b n g q.toNat) = _
  rw [if_neg (by omega), show ((q.toNat : Nat) : Int) = q by omega]
theorem gBo9_0 (b : Int) (h : b = 0 ∨ b = 1) : gBo 9 b 0 = b := by
  rcases h with rfl | rfl <;> decide
theorem fAf_ref {k f s : Nat → Int32} {w o fs n m a : Int} (h3 : ∀ j : Nat, j < 8 → gBit w (j : Int) = if (j : Int) < n ∧ fI k (j : Int) ≠ 4 ∧ gBit fs (fI f (j : Int)) = 1 then 1 - gBit o (j : Int) else gBit o (j : Int)) (hS : ∀ j : Nat, (j : Int) < m → (s j).toInt = gBit o (j : Int)) (h0 : 0 ≤ a) (hn : a < n) (hm : a < m) (h8 : a < 8) (hk : fI k a ≠ 4) : fAf f s fs a = gBit w a := by
  obtain ⟨j, rfl⟩ : ∃ j : Nat, a = (j : Int) := ⟨a.toNat, by omega⟩
  have h := h3 j (by omega)
  have e : fI s (j : Int) = gBit o (j : Int) := by
    unfold fI
    rw [Int.toNat_natCast]
    exact hS j hm
  unfold fAf
  rw [e, h]
  rcases gBit_01 fs (fI f (j : Int)) with q | q
  · rw [if_neg (by rintro ⟨-, -, q2⟩; omega), q]
    exact gBo9_0 _ (gBit_01 _ _)
  · rw [if_pos ⟨hn, hk, q⟩, q]
    exact gBo9_bit _ (gBit_01 _ _)
end
