/-! ===== values over unknown whole numbers, and what they stand for =====
A value is (tag, number): 0 a known int; 1 a known long; 2 null; 3 the world's cell by its place; 7 an object from outside by its number; 16 + 2 i an int, the unknown number i plus c; 17 + 2 i the same as a long; any other tag: some object. The unknown numbers are a list that grows at its end. -/
abbrev sV : Type := Nat × Int
abbrev sE : Type := List (Nat × Int × Int)
abbrev sFc : Type := Nat × List sV × List Nat
abbrev sC : Type := (Nat × List sV) ⊕ (Nat × Nat × List (Nat × sV))
abbrev sM : Type := List (Nat × sV)
def sA2 {α β : Type} (R : α → β → Prop) : List α → List β → Prop
  | [], [] => True
  | a :: as, b :: bs => R a b ∧ sA2 R as bs
  | _, _ => False
def sRep (ρ : List Int) (ads : List Nat) (ex : Nat → Nat) (x : sV) (v : Value) : Prop :=
  match x with
  | (0, z) => v = .int (Int32.ofInt z)
  | (1, z) => v = .long (Int64.ofInt z)
  | (2, z) => v = .null ∨ (z = 1 ∧ ∃ a : Nat, v = .ref a)
  | (3, k) => ∃ a, ads[k.toNat]? = some a ∧ v = .ref a
  | (7, j) => v = .ref (ex j.toNat)
  | (t, c) => if 16 ≤ t then ∃ y : Int, ρ[(t - 16) / 2]? = some y ∧ (if t % 2 = 0 then v = .int (Int32.ofInt (y + c)) else v = .long (Int64.ofInt (y + c))) else ∃ a : Nat, v = .ref a
def sK (x : sV) : Nat := match x.1 with
  | 0 => 0
  | 1 => 1
  | 2 => 3
  | 3 => 2
  | t => if 16 ≤ t then t % 2 else 2
/-- the whole number that an int or a long stands for -/
def sEv (ρ : List Int) (x : sV) : Option Int := match x with
  | (0, z) => some z
  | (1, z) => some z
  | (t, c) => if 16 ≤ t then (ρ[(t - 16) / 2]?).map (fun y => y + c) else none
def sI (z : Int) : Bool := decide (-2147483648 ≤ z) && decide (z ≤ 2147483647)
theorem sI_iff {z : Int} : sI z = true ↔ -2147483648 ≤ z ∧ z ≤ 2147483647 := by simp [sI]
theorem sI_toInt {z : Int} (h : sI z = true) : (Int32.ofInt z).toInt = z := by
  rw [sI_iff] at h
  exact Int32.toInt_ofInt_of_le (by omega) (by omega)
theorem sI_of (x : Int32) : sI x.toInt = true := by
  rw [sI_iff]
  have h1 := x.le_toInt
  have h2 := x.toInt_lt
  omega
/-- the bounds of the world's own numbers -/
def sLocB : List (Int × Int) := [(Int.ofNat 0, Int.ofNat 700), (Int.negSucc 2147483647, Int.ofNat 2147483647), (Int.ofNat 0, Int.ofNat 1), (Int.ofNat 0, Int.ofNat 8), (Int.ofNat 0, Int.ofNat 16), (Int.ofNat 0, Int.ofNat 6), (Int.ofNat 0, Int.ofNat 8), (Int.ofNat 0, Int.ofNat 700), (Int.negSucc 2147483647, Int.ofNat 2147483647), (Int.negSucc 2147483647, Int.ofNat 2147483647), (Int.ofNat 0, Int.ofNat 700), (Int.ofNat 0, Int.ofNat 4), (Int.ofNat 0, Int.ofNat 700), (Int.ofNat 0, Int.ofNat 700), (Int.ofNat 0, Int.ofNat 9999), (Int.ofNat 0, Int.ofNat 8), (Int.ofNat 0, Int.ofNat 16), (Int.ofNat 0, Int.ofNat 6), (Int.ofNat 0, Int.ofNat 8), (Int.ofNat 0, Int.ofNat 700), (Int.negSucc 2147483647, Int.ofNat 2147483647), (Int.negSucc 2147483647, Int.ofNat 2147483647), (Int.ofNat 0, Int.ofNat 5), (Int.negSucc 2147483647, Int.ofNat 2147483647), (Int.negSucc 0, Int.ofNat 7), (Int.ofNat 0, Int.ofNat 40), (Int.ofNat 0, Int.ofNat 8), (Int.negSucc 2147483647, Int.ofNat 2147483647), (Int.negSucc 2147483647, Int.ofNat 2147483647), (Int.ofNat 0, Int.ofNat 5), (Int.negSucc 2147483647, Int.ofNat 2147483647), (Int.negSucc 0, Int.ofNat 7), (Int.ofNat 0, Int.ofNat 40), (Int.ofNat 0, Int.ofNat 8), (Int.negSucc 2147483647, Int.ofNat 2147483647), (Int.negSucc 2147483647, Int.ofNat 2147483647), (Int.ofNat 0, Int.ofNat 5), (Int.negSucc 2147483647, Int.ofNat 2147483647), (Int.negSucc 0, Int.ofNat 7), (Int.negSucc 2147483647, Int.ofNat 2147483647), (Int.ofNat 0, Int.ofNat 700), (Int.ofNat 0, Int.ofNat 700), (Int.ofNat 0, Int.ofNat 700), (Int.ofNat 0, Int.ofNat 4), (Int.negSucc 2147483647, Int.ofNat 2147483647), (Int.ofNat 0, Int.ofNat 700), (Int.ofNat 0, Int.ofNat 700), (Int.ofNat 0, Int.ofNat 5), (Int.negSucc 2147483647, Int.ofNat 2147483647), (Int.negSucc 2147483647, Int.ofNat 2147483647), (Int.negSucc 2147483647, Int.ofNat 2147483647), (Int.negSucc 2147483647, Int.ofNat 2147483647), (Int.negSucc 2147483647, Int.ofNat 2147483647), (Int.negSucc 2147483647, Int.ofNat 2147483647), (Int.ofNat 0, Int.ofNat 5), (Int.ofNat 0, Int.ofNat 40), (Int.ofNat 0, Int.ofNat 8), (Int.negSucc 0, Int.ofNat 7), (Int.ofNat 0, Int.ofNat 7), (Int.negSucc 2147483647, Int.ofNat 2147483647), (Int.ofNat 0, Int.ofNat 1), (Int.ofNat 0, Int.ofNat 40), (Int.ofNat 0, Int.ofNat 8), (Int.ofNat 0, Int.ofNat 8), (Int.ofNat 0, Int.ofNat 16), (Int.ofNat 0, Int.ofNat 6), (Int.ofNat 0, Int.ofNat 8), (Int.ofNat 0, Int.ofNat 700), (Int.negSucc 2147483647, Int.ofNat 2147483647), (Int.negSucc 2147483647, Int.ofNat 2147483647), (Int.ofNat 0, Int.ofNat 8), (Int.ofNat 0, Int.ofNat 16), (Int.ofNat 0, Int.ofNat 6), (Int.ofNat 0, Int.ofNat 8), (Int.ofNat 0, Int.ofNat 700), (Int.negSucc 2147483647, Int.ofNat 2147483647), (Int.negSucc 2147483647, Int.ofNat 2147483647), (Int.negSucc 2147483647, Int.ofNat 2147483647)]
/-- a bound; an entry 1000000 with bounds that can't be stands for those of the world -/
def sQe (ρ : List Int) (q : Nat × Int × Int) : Prop := if q.1 = 1000000 ∧ q.2.2 < q.2.1 then ∀ (i : Nat) (b : Int × Int), sLocB[i]? = some b → ∃ y, ρ[i]? = some y ∧ b.1 ≤ y ∧ y ≤ b.2 else ∃ y, ρ[q.1]? = some y ∧ q.2.1 ≤ y ∧ y ≤ q.2.2
def sOk (ρ : List Int) (nx : Nat) (env : sE) : Prop := ρ.length = nx ∧ (∀ y ∈ ρ, sI y = true) ∧ ∀ q ∈ env, sQe ρ q
theorem sGetP {α : Type} {l l' : List α} (hp : l <+: l') {i : Nat} {a : α} (h : l[i]? = some a) : l'[i]? = some a := by
  obtain ⟨r, rfl⟩ := hp
  have hl := (List.getElem?_eq_some_iff.mp h).1
  rw [List.getElem?_append_left hl]
  exact h
theorem sQe_mono {ρ ρ' : List Int} (hp : ρ <+: ρ') {q : Nat × Int × Int} (h : sQe ρ q) : sQe ρ' q := by
  unfold sQe at h ⊢
  split at h
  · rename_i hc
    rw [if_pos hc]
    intro i b hb
    obtain ⟨y, hy, h1⟩ := h i b hb
    exact ⟨y, sGetP hp hy, h1⟩
  · rename_i hc
    rw [if_neg hc]
    obtain ⟨y, hy, h1⟩ := h
    exact ⟨y, sGetP hp hy, h1⟩
theorem sQe_of {ρ : List Int} {i : Nat} {y lo hi : Int} (hy : ρ[i]? = some y) (h1 : lo ≤ y) (h2 : y ≤ hi) : sQe ρ (i, lo, hi) := by
  unfold sQe
  rw [if_neg (fun q => by have := q.2; simp only at this; omega)]
  exact ⟨y, hy, h1, h2⟩
theorem sEv_mono {ρ ρ' : List Int} (hp : ρ <+: ρ') {x : sV} {n : Int} (h : sEv ρ x = some n) : sEv ρ' x = some n := by
  unfold sEv at h ⊢
  split at h
  · exact h
  · exact h
  · split at h
    · rename_i ht
      rw [if_pos ht]
      obtain ⟨y, hy, rfl⟩ := Option.map_eq_some_iff.mp h
      rw [sGetP hp hy]
      rfl
    · cases h
theorem sRep_mono {ρ ρ' : List Int} {ads ads' : List Nat} {ex : Nat → Nat} (hr : ρ <+: ρ') (hp : ads <+: ads') {x : sV} {v : Value} (h : sRep ρ ads ex x v) : sRep ρ' ads' ex x v := by
  unfold sRep at h ⊢
  split at h
  · exact h
  · exact h
  · exact h
  · obtain ⟨a, h1, h2⟩ := h
    exact ⟨a, sGetP hp h1, h2⟩
  · exact h
  · split at h
    · rename_i ht
      rw [if_pos ht]
      obtain ⟨y, h1, h2⟩ := h
      exact ⟨y, sGetP hr h1, h2⟩
    · rename_i ht
      rw [if_neg ht]
      exact h
/-- the tags, one by one -/
theorem sTag (t : Nat) : t = 0 ∨ t = 1 ∨ t = 2 ∨ t = 3 ∨ t = 7 ∨ (t ≠ 0 ∧ t ≠ 1 ∧ t ≠ 2 ∧ t ≠ 3 ∧ t ≠ 7) := by omega
theorem sRep_gen {ρ : List Int} {ads : List Nat} {ex : Nat → Nat} {t : Nat} {c : Int} {v : Value} (ht : t ≠ 0 ∧ t ≠ 1 ∧ t ≠ 2 ∧ t ≠ 3 ∧ t ≠ 7) : sRep ρ ads ex (t, c) v ↔ if 16 ≤ t then ∃ y : Int, ρ[(t - 16) / 2]? = some y ∧ (if t % 2 = 0 then v = .int (Int32.ofInt (y + c)) else v = .long (Int64.ofInt (y + c))) else ∃ a : Nat, v = .ref a := by
  obtain ⟨h0, h1, h2, h3, h7⟩ := ht
  unfold sRep
  split
  · rename_i e; cases e; exact absurd rfl h0
  · rename_i e; cases e; exact absurd rfl h1
  · rename_i e; cases e; exact absurd rfl h2
  · rename_i e; cases e; exact absurd rfl h3
  · rename_i e; cases e; exact absurd rfl h7
  · rename_i e; cases e; exact Iff.rfl
theorem sK_gen {t : Nat} {c : Int} (ht : t ≠ 0 ∧ t ≠ 1 ∧ t ≠ 2 ∧ t ≠ 3 ∧ t ≠ 7) : sK (t, c) = if 16 ≤ t then t % 2 else 2 := by
  obtain ⟨h0, h1, h2, h3, -⟩ := ht
  unfold sK
  split
  · rename_i e; exact absurd e h0
  · rename_i e; exact absurd e h1
  · rename_i e; exact absurd e h2
  · rename_i e; exact absurd e h3
  · rfl
theorem sEv_gen {ρ : List Int} {t : Nat} {c : Int} (ht : t ≠ 0 ∧ t ≠ 1) : sEv ρ (t, c) = if 16 ≤ t then (ρ[(t - 16) / 2]?).map (fun y => y + c) else none := by
  unfold sEv
  split
  · rename_i e; cases e; exact absurd rfl ht.1
  · rename_i e; cases e; exact absurd rfl ht.2
  · rename_i e; cases e; rfl
/-- what a value's kind says -/
theorem sRep_int {ρ : List Int} {ads : List Nat} {ex : Nat → Nat} {x : sV} {v : Value} (h : sRep ρ ads ex x v) (hk : sK x = 0) : ∃ n : Int, v = .int (Int32.ofInt n) ∧ sEv ρ x = some n := by
  obtain ⟨t, c⟩ := x
  rcases sTag t with rfl | rfl | rfl | rfl | rfl | ht
  · exact ⟨c, h, rfl⟩
  · simp [sK] at hk
  · simp [sK] at hk
  · simp [sK] at hk
  · simp [sK] at hk
  · rw [sRep_gen ht] at h
    rw [sK_gen ht] at hk
    rw [sEv_gen ⟨ht.1, ht.2.1⟩]
    split at h
    · rename_i h16
      rw [if_pos h16] at hk ⊢
      obtain ⟨y, h1, h2⟩ := h
      rw [if_pos hk] at h2
      exact ⟨y + c, h2, by rw [h1]; rfl⟩
    · rename_i h16
      rw [if_neg h16] at hk
      omega
theorem sRep_long {ρ : List Int} {ads : List Nat} {ex : Nat → Nat} {x : sV} {v : Value} (h : sRep ρ ads ex x v) (hk : sK x = 1) : ∃ n : Int, v = .long (Int64.ofInt n) ∧ sEv ρ x = some n := by
  obtain ⟨t, c⟩ := x
  rcases sTag t with rfl | rfl | rfl | rfl | rfl | ht
  · simp [sK] at hk
  · exact ⟨c, h, rfl⟩
  · simp [sK] at hk
  · simp [sK] at hk
  · simp [sK] at hk
  · rw [sRep_gen ht] at h
    rw [sK_gen ht] at hk
    rw [sEv_gen ⟨ht.1, ht.2.1⟩]
    split at h
    · rename_i h16
      rw [if_pos h16] at hk ⊢
      obtain ⟨y, h1, h2⟩ := h
      rw [if_neg (by omega)] at h2
      exact ⟨y + c, h2, by rw [h1]; rfl⟩
    · rename_i h16
      rw [if_neg h16] at hk
      omega
theorem sRep_ref {ρ : List Int} {ads : List Nat} {ex : Nat → Nat} {x : sV} {v : Value} (h : sRep ρ ads ex x v) (hk : sK x = 2) : ∃ y : Nat, v = .ref y := by
  obtain ⟨t, c⟩ := x
  rcases sTag t with rfl | rfl | rfl | rfl | rfl | ht
  · simp [sK] at hk
  · simp [sK] at hk
  · simp [sK] at hk
  · obtain ⟨a, -, h⟩ := h; exact ⟨a, h⟩
  · exact ⟨_, h⟩
  · rw [sRep_gen ht] at h
    rw [sK_gen ht] at hk
    split at h
    · rename_i h16
      rw [if_pos h16] at hk
      omega
    · exact h
/-- a number of the right kind is represented by its whole number -/
theorem sRep_of_int {ρ : List Int} {ads : List Nat} {ex : Nat → Nat} {x : sV} {n : Int} (hk : sK x = 0) (h : sEv ρ x = some n) : sRep ρ ads ex x (.int (Int32.ofInt n)) := by
  obtain ⟨t, c⟩ := x
  rcases sTag t with rfl | rfl | rfl | rfl | rfl | ht
  · simp only [sEv, Option.some.injEq] at h
    subst h
    rfl
  · simp [sK] at hk
  · simp [sK] at hk
  · simp [sK] at hk
  · simp [sK] at hk
  · rw [sRep_gen ht]
    rw [sK_gen ht] at hk
    rw [sEv_gen ⟨ht.1, ht.2.1⟩] at h
    split at h
    · rename_i h16
      rw [if_pos h16] at hk ⊢
      obtain ⟨y, h1, rfl⟩ := Option.map_eq_some_iff.mp h
      exact ⟨y, h1, by rw [if_pos hk]⟩
    · cases h
theorem sRep_of_long {ρ : List Int} {ads : List Nat} {ex : Nat → Nat} {x : sV} {n : Int} (hk : sK x = 1) (h : sEv ρ x = some n) : sRep ρ ads ex x (.long (Int64.ofInt n)) := by
  obtain ⟨t, c⟩ := x
  rcases sTag t with rfl | rfl | rfl | rfl | rfl | ht
  · simp [sK] at hk
  · simp only [sEv, Option.some.injEq] at h
    subst h
    rfl
  · simp [sK] at hk
  · simp [sK] at hk
  · simp [sK] at hk
  · rw [sRep_gen ht]
    rw [sK_gen ht] at hk
    rw [sEv_gen ⟨ht.1, ht.2.1⟩] at h
    split at h
    · rename_i h16
      rw [if_pos h16] at hk ⊢
      obtain ⟨y, h1, rfl⟩ := Option.map_eq_some_iff.mp h
      exact ⟨y, h1, by rw [if_neg (by omega)]⟩
    · cases h
theorem sRep_cat {ρ : List Int} {ads : List Nat} {ex : Nat → Nat} {x : sV} {v : Value} (h : sRep ρ ads ex x v) : v.category = if sK x = 1 then 2 else 1 := by
  by_cases h0 : sK x = 0
  · obtain ⟨n, rfl, -⟩ := sRep_int h h0
    rw [h0]; rfl
  · by_cases h1 : sK x = 1
    · obtain ⟨n, rfl, -⟩ := sRep_long h h1
      rw [h1]; rfl
    · by_cases h2 : sK x = 2
      · obtain ⟨a, rfl⟩ := sRep_ref h h2
        rw [h2]; rfl
      · obtain ⟨t, c⟩ := x
        rcases sTag t with rfl | rfl | rfl | rfl | rfl | ht
        · exact absurd rfl h0
        · exact absurd rfl h1
        · rcases h with rfl | ⟨-, a, rfl⟩
          · rfl
          · rfl
        · exact absurd rfl h2
        · exact absurd rfl h2
        · rw [sK_gen ht] at h0 h1 h2
          split at h2
          · rename_i h16
            rw [if_pos h16] at h0 h1
            omega
          · exact absurd rfl h2
