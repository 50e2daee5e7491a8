/-! ===== two lists, place by place ===== -/
theorem sA2_imp {α β : Type} {R S : α → β → Prop} (h : ∀ a b, R a b → S a b) : ∀ (l : List α) (l' : List β), sA2 R l l' → sA2 S l l'
  | [], [], _ => trivial
  | a :: as, b :: bs, ⟨h1, h2⟩ => ⟨h a b h1, sA2_imp h as bs h2⟩
  | [], _ :: _, q => q.elim
  | _ :: _, [], q => q.elim
theorem sA2_len {α β : Type} {R : α → β → Prop} : ∀ (l : List α) (l' : List β), sA2 R l l' → l.length = l'.length
  | [], [], _ => rfl
  | a :: as, b :: bs, ⟨_, h2⟩ => by simp [sA2_len as bs h2]
  | [], _ :: _, q => q.elim
  | _ :: _, [], q => q.elim
theorem sA2_get {α β : Type} {R : α → β → Prop} : ∀ (l : List α) (l' : List β) (k : Nat) (a : α), sA2 R l l' → l[k]? = some a → ∃ b, l'[k]? = some b ∧ R a b
  | [], [], k, a, _, h => by simp at h
  | x :: xs, y :: ys, 0, a, ⟨h1, _⟩, h => by
    simp at h
    subst h
    exact ⟨y, by simp, h1⟩
  | x :: xs, y :: ys, k + 1, a, ⟨_, h2⟩, h => by
    simp at h
    obtain ⟨b, hb, hr⟩ := sA2_get xs ys k a h2 h
    exact ⟨b, by simpa using hb, hr⟩
  | [], _ :: _, _, _, q, _ => q.elim
  | _ :: _, [], _, _, q, _ => q.elim
theorem sA2_set {α β : Type} {R : α → β → Prop} : ∀ (l : List α) (l' : List β) (k : Nat) (a : α) (b : β), sA2 R l l' → R a b → sA2 R (l.set k a) (l'.set k b)
  | [], [], k, a, b, _, _ => trivial
  | x :: xs, y :: ys, 0, a, b, ⟨_, h2⟩, h => ⟨h, h2⟩
  | x :: xs, y :: ys, k + 1, a, b, ⟨h1, h2⟩, h => ⟨h1, sA2_set xs ys k a b h2 h⟩
  | [], _ :: _, _, _, _, q, _ => q.elim
  | _ :: _, [], _, _, _, q, _ => q.elim
theorem sA2_app {α β : Type} {R : α → β → Prop} : ∀ (l : List α) (l' : List β) (m : List α) (m' : List β), sA2 R l l' → sA2 R m m' → sA2 R (l ++ m) (l' ++ m')
  | [], [], _, _, _, h => h
  | x :: xs, y :: ys, m, m', ⟨h1, h2⟩, h => ⟨h1, sA2_app xs ys m m' h2 h⟩
  | [], _ :: _, _, _, q, _ => q.elim
  | _ :: _, [], _, _, q, _ => q.elim
theorem sA2_filter {α β : Type} {R : α → β → Prop} {f : α → Bool} {g : β → Bool} (h : ∀ a b, R a b → f a = g b) : ∀ (l : List α) (l' : List β), sA2 R l l' → sA2 R (l.filter f) (l'.filter g)
  | [], [], _ => trivial
  | a :: as, b :: bs, ⟨h1, h2⟩ => by
    have ih := sA2_filter h as bs h2
    have e := h a b h1
    simp only [List.filter_cons]
    rw [← e]
    cases f a
    · exact ih
    · exact ⟨h1, ih⟩
  | [], _ :: _, q => q.elim
  | _ :: _, [], q => q.elim
theorem sA2_rev {α β : Type} {R : α → β → Prop} : ∀ (l : List α) (l' : List β), sA2 R l l' → sA2 R l.reverse l'.reverse
  | [], [], _ => trivial
  | a :: as, b :: bs, ⟨h1, h2⟩ => by
    rw [List.reverse_cons, List.reverse_cons]
    exact sA2_app _ _ _ _ (sA2_rev as bs h2) ⟨h1, trivial⟩
  | [], _ :: _, q => q.elim
  | _ :: _, [], q => q.elim
theorem sA2_take {α β : Type} {R : α → β → Prop} : ∀ (n : Nat) (l : List α) (l' : List β), sA2 R l l' → sA2 R (l.take n) (l'.take n)
  | 0, _, _, _ => by simp [sA2]
  | n + 1, [], [], _ => trivial
  | n + 1, a :: as, b :: bs, ⟨h1, h2⟩ => ⟨h1, sA2_take n as bs h2⟩
  | _ + 1, [], _ :: _, q => q.elim
  | _ + 1, _ :: _, [], q => q.elim
theorem sA2_drop {α β : Type} {R : α → β → Prop} : ∀ (n : Nat) (l : List α) (l' : List β), sA2 R l l' → sA2 R (l.drop n) (l'.drop n)
  | 0, _, _, h => by simpa using h
  | n + 1, [], [], _ => trivial
  | n + 1, a :: as, b :: bs, ⟨_, h2⟩ => by simpa using sA2_drop n as bs h2
  | _ + 1, [], _ :: _, q => q.elim
  | _ + 1, _ :: _, [], q => q.elim
theorem sA2_nil {α β : Type} {R : α → β → Prop} {l' : List β} (h : sA2 R ([] : List α) l') : l' = [] := by
  cases l' with
  | nil => rfl
  | cons _ _ => exact h.elim
theorem sA2_cons {α β : Type} {R : α → β → Prop} {a : α} {as : List α} {l' : List β} (h : sA2 R (a :: as) l') : ∃ b bs, l' = b :: bs ∧ R a b ∧ sA2 R as bs := by
  cases l' with
  | nil => exact h.elim
  | cons b bs => exact ⟨b, bs, rfl, h.1, h.2⟩
