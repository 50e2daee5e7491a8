/-! ===== symbolic values, and what they stand for =====
A value is (tag, number): 0 a known int; 1 a known long; 2 null; 3 the world's cell by its place; 4 an unknown int by its number (its bounds stand in the bounds' list); 5 the same widened to long; 6 any int; 7 an object from outside the world by its number; 8 and more: some object. -/
abbrev sV : Type := Nat × Int
abbrev sE : Type := List (Int × Int)
abbrev sC : Type := (Nat × List sV) ⊕ (Nat × Nat × List (Nat × sV))
abbrev sM : Type := List (Nat × sV)
def sA2 {α β : Type} (R : α → β → Prop) : List α → List β → Prop
  | [], [] => True
  | a :: as, b :: bs => R a b ∧ sA2 R as bs
  | _, _ => False
def sRep (ρ : Nat → Int32) (ads : List Nat) (ex : Nat → Nat) (x : sV) (v : Value) : Prop :=
  match x with
  | (0, z) => v = .int (Int32.ofInt z)
  | (1, z) => v = .long (Int64.ofInt z)
  | (2, _) => v = .null
  | (3, k) => ∃ a, ads[k.toNat]? = some a ∧ v = .ref a
  | (4, i) => v = .int (ρ i.toNat)
  | (5, i) => v = .long (ρ i.toNat).toInt64
  | (6, _) => ∃ y : Int32, v = .int y
  | (7, j) => v = .ref (ex j.toNat)
  | (_ + 8, _) => ∃ a : Nat, v = .ref a
def sK (x : sV) : Nat := match x.1 with
  | 0 => 0
  | 1 => 1
  | 2 => 3
  | 3 => 2
  | 4 => 0
  | 5 => 1
  | 6 => 0
  | _ => 2
def sSat (ρ : Nat → Int32) (env : sE) : Prop := ∀ (i : Nat) (lo hi : Int), env[i]? = some (lo, hi) → lo ≤ (ρ i).toInt ∧ (ρ i).toInt ≤ hi
theorem sRep_int {ρ : Nat → Int32} {ads : List Nat} {ex : Nat → Nat} {x : sV} {v : Value} (h : sRep ρ ads ex x v) (hk : sK x = 0) : ∃ y : Int32, v = .int y := by
  obtain ⟨t, z⟩ := x
  match t, h, hk with
  | 0, h, _ => exact ⟨_, h⟩
  | 1, _, hk => simp [sK] at hk
  | 2, _, hk => simp [sK] at hk
  | 3, _, hk => simp [sK] at hk
  | 4, h, _ => exact ⟨_, h⟩
  | 5, _, hk => simp [sK] at hk
  | 6, h, _ => exact h
  | 7, _, hk => simp [sK] at hk
  | _ + 8, _, hk => simp [sK] at hk
theorem sRep_long {ρ : Nat → Int32} {ads : List Nat} {ex : Nat → Nat} {x : sV} {v : Value} (h : sRep ρ ads ex x v) (hk : sK x = 1) : ∃ y : Int64, v = .long y := by
  obtain ⟨t, z⟩ := x
  match t, h, hk with
  | 0, _, hk => simp [sK] at hk
  | 1, h, _ => exact ⟨_, h⟩
  | 2, _, hk => simp [sK] at hk
  | 3, _, hk => simp [sK] at hk
  | 4, _, hk => simp [sK] at hk
  | 5, h, _ => exact ⟨_, h⟩
  | 6, _, hk => simp [sK] at hk
  | 7, _, hk => simp [sK] at hk
  | _ + 8, _, hk => simp [sK] at hk
theorem sRep_ref {ρ : Nat → Int32} {ads : List Nat} {ex : Nat → Nat} {x : sV} {v : Value} (h : sRep ρ ads ex x v) (hk : sK x = 2) : ∃ y : Nat, v = .ref y := by
  obtain ⟨t, z⟩ := x
  match t, h, hk with
  | 0, _, hk => simp [sK] at hk
  | 1, _, hk => simp [sK] at hk
  | 2, _, hk => simp [sK] at hk
  | 3, h, _ => obtain ⟨a, -, h⟩ := h; exact ⟨a, h⟩
  | 4, _, hk => simp [sK] at hk
  | 5, _, hk => simp [sK] at hk
  | 6, _, hk => simp [sK] at hk
  | 7, h, _ => exact ⟨_, h⟩
  | _ + 8, h, _ => exact h
theorem sRep_cat {ρ : Nat → Int32} {ads : List Nat} {ex : Nat → Nat} {x : sV} {v : Value} (h : sRep ρ ads ex x v) : v.category = if sK x = 1 then 2 else 1 := by
  obtain ⟨t, z⟩ := x
  match t, h with
  | 0, h => simp only [sRep] at h; subst h; rfl
  | 1, h => simp only [sRep] at h; subst h; rfl
  | 2, h => simp only [sRep] at h; subst h; rfl
  | 3, h => obtain ⟨a, -, h⟩ := h; subst h; rfl
  | 4, h => simp only [sRep] at h; subst h; rfl
  | 5, h => simp only [sRep] at h; subst h; rfl
  | 6, h => obtain ⟨a, h⟩ := h; subst h; rfl
  | 7, h => simp only [sRep] at h; subst h; rfl
  | _ + 8, h => obtain ⟨a, h⟩ := h; subst h; rfl
theorem sRep_mono {ρ : Nat → Int32} {ads ads' : List Nat} {ex : Nat → Nat} (hp : ads <+: ads') {x : sV} {v : Value} (h : sRep ρ ads ex x v) : sRep ρ ads' ex x v := by
  obtain ⟨t, z⟩ := x
  match t, h with
  | 0, h => exact h
  | 1, h => exact h
  | 2, h => exact h
  | 3, h =>
    obtain ⟨a, h1, h2⟩ := h
    obtain ⟨r, rfl⟩ := hp
    have hl := (List.getElem?_eq_some_iff.mp h1).1
    exact ⟨a, by rw [List.getElem?_append_left hl]; exact h1, h2⟩
  | 4, h => exact h
  | 5, h => exact h
  | 6, h => exact h
  | 7, h => exact h
  | _ + 8, h => exact h
theorem sA2_imp {α β : Type} {R S : α → β → Prop} (h : ∀ a b, R a b → S a b) : ∀ (l : List α) (l' : List β), sA2 R l l' → sA2 S l l'
  | [], [], _ => trivial
  | a :: as, b :: bs, ⟨h1, h2⟩ => ⟨h a b h1, sA2_imp h as bs h2⟩
  | [], _ :: _, q => q.elim
  | _ :: _, [], q => q.elim
theorem sA2_len {α β : Type} {R : α → β → Prop} : ∀ (l : List α) (l' : List β), sA2 R l l' → l.length = l'.length
  | [], [], _ => rfl
  | a :: as, b :: bs, ⟨_, h2⟩ => by simp [sA2_len as bs h2]
  | [], _ :: _, q => q.elim
  | _ :: _, [], q => q.elim
theorem sA2_get {α β : Type} {R : α → β → Prop} : ∀ (l : List α) (l' : List β) (k : Nat) (a : α), sA2 R l l' → l[k]? = some a → ∃ b, l'[k]? = some b ∧ R a b
  | [], [], k, a, _, h => by simp at h
  | x :: xs, y :: ys, 0, a, ⟨h1, _⟩, h => by
    simp at h
    subst h
    exact ⟨y, by simp, h1⟩
  | x :: xs, y :: ys, k + 1, a, ⟨_, h2⟩, h => by
    simp at h
    obtain ⟨b, hb, hr⟩ := sA2_get xs ys k a h2 h
    exact ⟨b, by simpa using hb, hr⟩
  | [], _ :: _, _, _, q, _ => q.elim
  | _ :: _, [], _, _, q, _ => q.elim
theorem sA2_set {α β : Type} {R : α → β → Prop} : ∀ (l : List α) (l' : List β) (k : Nat) (a : α) (b : β), sA2 R l l' → R a b → sA2 R (l.set k a) (l'.set k b)
  | [], [], k, a, b, _, _ => trivial
  | x :: xs, y :: ys, 0, a, b, ⟨_, h2⟩, h => ⟨h, h2⟩
  | x :: xs, y :: ys, k + 1, a, b, ⟨h1, h2⟩, h => ⟨h1, sA2_set xs ys k a b h2 h⟩
  | [], _ :: _, _, _, _, q, _ => q.elim
  | _ :: _, [], _, _, _, q, _ => q.elim
theorem sA2_app {α β : Type} {R : α → β → Prop} : ∀ (l : List α) (l' : List β) (m : List α) (m' : List β), sA2 R l l' → sA2 R m m' → sA2 R (l ++ m) (l' ++ m')
  | [], [], _, _, _, h => h
  | x :: xs, y :: ys, m, m', ⟨h1, h2⟩, h => ⟨h1, sA2_app xs ys m m' h2 h⟩
  | [], _ :: _, _, _, q, _ => q.elim
  | _ :: _, [], _, _, q, _ => q.elim
theorem sA2_filter {α β : Type} {R : α → β → Prop} {f : α → Bool} {g : β → Bool} (h : ∀ a b, R a b → f a = g b) : ∀ (l : List α) (l' : List β), sA2 R l l' → sA2 R (l.filter f) (l'.filter g)
  | [], [], _ => trivial
  | a :: as, b :: bs, ⟨h1, h2⟩ => by
    have ih := sA2_filter h as bs h2
    have e := h a b h1
    simp only [List.filter_cons]
    rw [← e]
    cases f a
    · exact ih
    · exact ⟨h1, ih⟩
  | [], _ :: _, q => q.elim
  | _ :: _, [], q => q.elim
theorem sA2_rev {α β : Type} {R : α → β → Prop} : ∀ (l : List α) (l' : List β), sA2 R l l' → sA2 R l.reverse l'.reverse
  | [], [], _ => trivial
  | a :: as, b :: bs, ⟨h1, h2⟩ => by
    rw [List.reverse_cons, List.reverse_cons]
    exact sA2_app _ _ _ _ (sA2_rev as bs h2) ⟨h1, trivial⟩
  | [], _ :: _, q => q.elim
  | _ :: _, [], q => q.elim
theorem sA2_take {α β : Type} {R : α → β → Prop} : ∀ (n : Nat) (l : List α) (l' : List β), sA2 R l l' → sA2 R (l.take n) (l'.take n)
  | 0, _, _, _ => by simp [sA2]
  | n + 1, [], [], _ => trivial
  | n + 1, a :: as, b :: bs, ⟨h1, h2⟩ => ⟨h1, sA2_take n as bs h2⟩
  | _ + 1, [], _ :: _, q => q.elim
  | _ + 1, _ :: _, [], q => q.elim
theorem sA2_drop {α β : Type} {R : α → β → Prop} : ∀ (n : Nat) (l : List α) (l' : List β), sA2 R l l' → sA2 R (l.drop n) (l'.drop n)
  | 0, _, _, h => by simpa using h
  | n + 1, [], [], _ => trivial
  | n + 1, a :: as, b :: bs, ⟨_, h2⟩ => by simpa using sA2_drop n as bs h2
  | _ + 1, [], _ :: _, q => q.elim
  | _ + 1, _ :: _, [], q => q.elim
theorem sA2_nil {α β : Type} {R : α → β → Prop} {l' : List β} (h : sA2 R ([] : List α) l') : l' = [] := by
  cases l' with
  | nil => rfl
  | cons _ _ => exact h.elim
theorem sA2_cons {α β : Type} {R : α → β → Prop} {a : α} {as : List α} {l' : List β} (h : sA2 R (a :: as) l') : ∃ b bs, l' = b :: bs ∧ R a b ∧ sA2 R as bs := by
  cases l' with
  | nil => exact h.elim
  | cons b bs => exact ⟨b, bs, rfl, h.1, h.2⟩
/-- an unknown whose bounds have met is known -/
def sN (env : sE) (x : sV) : sV := match x with
  | (4, i) => match env[i.toNat]? with
    | some (lo, hi) => if lo = hi then (0, lo) else (4, i)
    | none => (4, i)
  | (5, i) => match env[i.toNat]? with
    | some (lo, hi) => if lo = hi then (1, lo) else (5, i)
    | none => (5, i)
  | x => x
theorem sN_ok {ρ : Nat → Int32} {ads : List Nat} {ex : Nat → Nat} {env : sE} (hs : sSat ρ env) {x : sV} {v : Value} (h : sRep ρ ads ex x v) : sRep ρ ads ex (sN env x) v := by
  obtain ⟨t, z⟩ := x
  match t, h with
  | 0, h => exact h
  | 1, h => exact h
  | 2, h => exact h
  | 3, h => exact h
  | 4, h =>
    simp only [sN]
    split
    · rename_i lo hi he
      split
      · rename_i hl
        subst hl
        obtain ⟨h1, h2⟩ := hs _ _ _ he
        have e : (ρ z.toNat).toInt = lo := by omega
        simp only [sRep] at h ⊢
        rw [h, ← e, Int32.ofInt_toInt]
      · exact h
    · exact h
  | 5, h =>
    simp only [sN]
    split
    · rename_i lo hi he
      split
      · rename_i hl
        subst hl
        obtain ⟨h1, h2⟩ := hs _ _ _ he
        have e : (ρ z.toNat).toInt = lo := by omega
        simp only [sRep] at h ⊢
        rw [h, ← e, Int64.ofInt_int32ToInt]
      · exact h
    · exact h
  | 6, h => exact h
  | 7, h => exact h
  | _ + 8, h => exact h
theorem sN_k (env : sE) (x : sV) : sK (sN env x) = sK x := by
  obtain ⟨t, z⟩ := x
  match t with
  | 0 => rfl
  | 1 => rfl
  | 2 => rfl
  | 3 => rfl
  | 4 => simp only [sN]; split <;> (try split) <;> rfl
  | 5 => simp only [sN]; split <;> (try split) <;> rfl
  | 6 => rfl
  | 7 => rfl
  | _ + 8 => rfl
/-! ### numbers -/
def sI (z : Int) : Bool := decide (-2147483648 ≤ z) && decide (z ≤ 2147483647)
theorem sI_toInt {z : Int} (h : sI z = true) : (Int32.ofInt z).toInt = z := by
  simp only [sI, Bool.and_eq_true, decide_eq_true_eq] at h
  exact Int32.toInt_ofInt_of_le (by omega) (by omega)
def sW (z : Int) : Int := if sI z = true then z else (Int32.ofInt z).toInt
theorem sW_ok (z : Int) : Int32.ofInt (sW z) = Int32.ofInt z := by
  unfold sW
  split
  · rfl
  · rw [Int32.ofInt_toInt]
/-- two ints, an operation on whole numbers -/
def sZ (f : Int → Int → Int) (env : sE) (a b : sV) : Option sV := match sN env a, sN env b with
  | (0, x), (0, y) => some (0, sW (f x y))
  | a', b' => if sK a' = 0 ∧ sK b' = 0 then some (6, 0) else none
/-- two ints, an operation of the machine's own -/
def sF (f : Int32 → Int32 → Int32) (env : sE) (a b : sV) : Option sV := match sN env a, sN env b with
  | (0, x), (0, y) => some (0, (f (Int32.ofInt x) (Int32.ofInt y)).toInt)
  | a', b' => if sK a' = 0 ∧ sK b' = 0 then some (6, 0) else none
theorem sZ_ok {ρ : Nat → Int32} {ads : List Nat} {ex : Nat → Nat} {env : sE} (hs : sSat ρ env) {f : Int → Int → Int} {F : Int32 → Int32 → Int32} (hF : ∀ x y, F (Int32.ofInt x) (Int32.ofInt y) = Int32.ofInt (f x y)) {a b r : sV} {va vb : Value}
    (ha : sRep ρ ads ex a va) (hb : sRep ρ ads ex b vb) (h : sZ f env a b = some r) : ∃ x y : Int32, va = .int x ∧ vb = .int y ∧ sRep ρ ads ex r (.int (F x y)) := by
  have ha' := sN_ok hs ha
  have hb' := sN_ok hs hb
  unfold sZ at h
  generalize sN env a = a' at h ha'
  generalize sN env b = b' at h hb'
  split at h
  · rename_i x y
    cases h
    exact ⟨_, _, ha', hb', by show Value.int _ = Value.int _; rw [hF, sW_ok]⟩
  · split at h
    · rename_i hk
      cases h
      obtain ⟨x, hx⟩ := sRep_int ha' hk.1
      obtain ⟨y, hy⟩ := sRep_int hb' hk.2
      exact ⟨x, y, hx, hy, _, rfl⟩
    · cases h
theorem sF_ok {ρ : Nat → Int32} {ads : List Nat} {ex : Nat → Nat} {env : sE} (hs : sSat ρ env) {F : Int32 → Int32 → Int32} {a b r : sV} {va vb : Value}
    (ha : sRep ρ ads ex a va) (hb : sRep ρ ads ex b vb) (h : sF F env a b = some r) : ∃ x y : Int32, va = .int x ∧ vb = .int y ∧ sRep ρ ads ex r (.int (F x y)) := by
  have ha' := sN_ok hs ha
  have hb' := sN_ok hs hb
  unfold sF at h
  generalize sN env a = a' at h ha'
  generalize sN env b = b' at h hb'
  split at h
  · rename_i x y
    cases h
    exact ⟨_, _, ha', hb', by show Value.int _ = Value.int _; rw [Int32.ofInt_toInt]⟩
  · split at h
    · rename_i hk
      cases h
      obtain ⟨x, hx⟩ := sRep_int ha' hk.1
      obtain ⟨y, hy⟩ := sRep_int hb' hk.2
      exact ⟨x, y, hx, hy, _, rfl⟩
    · cases h
/-! ### locals -/
def sGet : sM → Nat → Option sV
  | [], _ => none
  | (j, x) :: t, i => if j = i then some x else sGet t i
def sPut1 (lv : sM) (i : Nat) (x : sV) : sM := (i, x) :: lv.filter (fun q => !(q.1 == i) && !(q.1 + 1 == i && sK q.2 == 1))
def sPut2 (lv : sM) (i : Nat) (x : sV) : sM := (i, x) :: lv.filter (fun q => !(q.1 == i) && (!(q.1 == i + 1) && !(q.1 + 1 == i && sK q.2 == 1)))
def sRL (ρ : Nat → Int32) (ads : List Nat) (ex : Nat → Nat) (a : Nat × sV) (b : Nat × Value) : Prop := a.1 = b.1 ∧ sRep ρ ads ex a.2 b.2
theorem sGet_ok {ρ : Nat → Int32} {ads : List Nat} {ex : Nat → Nat} {i : Nat} {x : sV} : ∀ (lv : sM) (lc : List (Nat × Value)), sA2 (sRL ρ ads ex) lv lc → sGet lv i = some x → ∃ (k : Nat) (v : Value), lc[k]? = some (i, v) ∧ sRep ρ ads ex x v
  | [], [], _, h => by simp [sGet] at h
  | (j, y) :: t, (j', v) :: t', ⟨⟨h1, h2⟩, h3⟩, h => by
    simp only [sGet] at h
    split at h
    · rename_i e
      cases h
      subst e
      simp only at h1
      subst h1
      exact ⟨0, v, rfl, h2⟩
    · obtain ⟨k, w, hk, hr⟩ := sGet_ok t t' h3 h
      exact ⟨k + 1, w, by simpa using hk, hr⟩
  | [], _ :: _, q, _ => q.elim
  | _ :: _, [], q, _ => q.elim
theorem sCat {ρ : Nat → Int32} {ads : List Nat} {ex : Nat → Nat} {x : sV} {v : Value} (h : sRep ρ ads ex x v) : (v.category == 2) = (sK x == 1) := by
  rw [sRep_cat h]
  by_cases e : sK x = 1
  · simp [e]
  · simp [e]
theorem sPut1_ok {ρ : Nat → Int32} {ads : List Nat} {ex : Nat → Nat} {lv : sM} {lc : List (Nat × Value)} {i : Nat} {x : sV} {v : Value} (h : sA2 (sRL ρ ads ex) lv lc) (hx : sRep ρ ads ex x v) :
    sA2 (sRL ρ ads ex) (sPut1 lv i x) ((i, v) :: lc.filter (fun q => !(q.1 == i) && !(q.1 + 1 == i && q.2.category == 2))) := by
  refine ⟨⟨rfl, hx⟩, sA2_filter ?_ _ _ h⟩
  intro a b hab
  rw [hab.1, sCat hab.2]
theorem sPut2_ok {ρ : Nat → Int32} {ads : List Nat} {ex : Nat → Nat} {lv : sM} {lc : List (Nat × Value)} {i : Nat} {x : sV} {v : Value} (h : sA2 (sRL ρ ads ex) lv lc) (hx : sRep ρ ads ex x v) :
    sA2 (sRL ρ ads ex) (sPut2 lv i x) ((i, v) :: lc.filter (fun q => !(q.1 == i) && (!(q.1 == i + 1) && !(q.1 + 1 == i && q.2.category == 2)))) := by
  refine ⟨⟨rfl, hx⟩, sA2_filter ?_ _ _ h⟩
  intro a b hab
  rw [hab.1, sCat hab.2]
