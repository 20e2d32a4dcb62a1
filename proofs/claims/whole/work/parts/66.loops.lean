/-! LOOPS, in general: a walk along a row, with a way out; a machine's loop that follows it -/
def walk {A E X : Type} (g : A → X → A ⊕ E) : A → List X → A ⊕ E
  | a, [] => .inl a
  | a, x :: xs => match g a x with
    | .inl a' => walk g a' xs
    | .inr e => .inr e
def thn {A E : Type} (o : A ⊕ E) (f : A → A ⊕ E) : A ⊕ E := match o with
  | .inl a => f a
  | .inr e => .inr e
theorem walk_append {A E X : Type} (g : A → X → A ⊕ E) (l m : List X) : ∀ a, walk g a (l ++ m) = thn (walk g a l) (fun a' => walk g a' m) := by
  induction l with
  | nil => intro a; rfl
  | cons x l ih =>
    intro a
    simp only [List.cons_append, walk]
    cases g a x with
    | inl a' => exact ih a'
    | inr e => rfl
theorem walk_flatMap {A E X Y : Type} (g : A → X → A ⊕ E) (f : Y → List X) (l : List Y) : ∀ a, walk g a (l.flatMap f) = walk (fun a y => walk g a (f y)) a l := by
  induction l with
  | nil => intro a; rfl
  | cons y l ih =>
    intro a
    simp only [List.flatMap_cons, walk, walk_append]
    cases walk g a (f y) with
    | inl a' => exact ih a'
    | inr e => rfl
theorem walk_filter {A E X : Type} (g : A → X → A ⊕ E) (P : X → Prop) [DecidablePred P] (l : List X) : ∀ a, walk (fun a x => if P x then g a x else .inl a) a l = walk g a (l.filter (fun x => decide (P x))) := by
  induction l with
  | nil => intro a; rfl
  | cons x l ih =>
    intro a
    by_cases h : P x
    · simp only [walk, h, if_true, List.filter_cons, decide_true]
      cases g a x with
      | inl a' => exact ih a'
      | inr e => rfl
    · simp only [walk, h, if_false, List.filter_cons, decide_false]
      exact ih a
theorem walk_map {A E X Y : Type} (g : A → X → A ⊕ E) (f : Y → X) (l : List Y) : ∀ a, walk g a (l.map f) = walk (fun a y => g a (f y)) a l := by
  induction l with
  | nil => intro a; rfl
  | cons y l ih =>
    intro a
    simp only [List.map_cons, walk]
    cases g a (f y) with
    | inl a' => exact ih a'
    | inr e => rfl
theorem walk_congr {A E X : Type} {g g' : A → X → A ⊕ E} (l : List X) (h : ∀ a x, x ∈ l → g a x = g' a x) : ∀ a, walk g a l = walk g' a l := by
  induction l with
  | nil => intro a; rfl
  | cons x l ih =>
    intro a
    simp only [walk]
    rw [h a x (by simp)]
    cases g' a x with
    | inl a' => exact ih (fun a y hy => h a y (by simp [hy])) a'
    | inr e => rfl
theorem walk_fold {A E X : Type} (g : A → X → A) (l : List X) : ∀ a, walk (E := E) (fun a x => .inl (g a x)) a l = .inl (l.foldl g a) := by
  induction l with
  | nil => intro a; rfl
  | cons x l ih => intro a; exact ih (g a x)
/-- a walk that carries what holds -/
theorem walk_inv {A E X : Type} {g : A → X → A ⊕ E} (P : A → Prop) (l : List X) (h : ∀ a x a', x ∈ l → P a → g a x = .inl a' → P a') : ∀ a a', P a → walk g a l = .inl a' → P a' := by
  induction l with
  | nil => intro a a' hP he; cases he; exact hP
  | cons x l ih =>
    intro a a' hP he
    simp only [walk] at he
    cases hg : g a x with
    | inl a1 =>
      rw [hg] at he
      exact ih (fun a y a' hy => h a y a' (by simp [hy])) a1 a' (h a x a1 (by simp) hP hg) he
    | inr e => rw [hg] at he; cases he
def rng (k n : Nat) : List Nat := (List.range n).drop k
theorem rng_succ {k n : Nat} (h : k < n) : rng k n = k :: rng (k + 1) n := by
  unfold rng
  rw [List.drop_eq_getElem_cons (by simpa using h)]
  simp
theorem rng_end {n : Nat} : rng n n = [] := by
  unfold rng; rw [List.drop_of_length_le (by simp)]
theorem rng_0 {n : Nat} : rng 0 n = List.range n := rfl
def outc {A E β : Type} (Fin : A → β → Prop) (Ex : E → β → Prop) (o : A ⊕ E) (y : β) : Prop := match o with
  | .inl a => Fin a y
  | .inr e => Ex e y
/-- a machine's loop from k to n follows a walk -/
theorem loop_from {A E α β : Type} {F : α → Option (α ⊕ β)} (g : A → Nat → A ⊕ E) (R : A → Nat → α → Prop) (Fin : A → β → Prop) (Ex : E → β → Prop) (n : Nat)
    (hs : ∀ a r x, r < n → R a r x → ∃ c, F x = some c ∧ match g a r with
      | .inl a' => ∃ x', c = .inl x' ∧ R a' (r + 1) x'
      | .inr e => ∃ y, c = .inr y ∧ Ex e y)
    (he : ∀ a x, R a n x → ∃ y, F x = some (.inr y) ∧ Fin a y) : ∀ (d k : Nat) (a : A) (x : α), k + d = n → R a k x → ∃ y, iterP F x = some y ∧ outc Fin Ex (walk g a (rng k n)) y := by
  intro d
  induction d with
  | zero =>
    intro k a x hk hR
    have hk : k = n := by omega
    subst hk
    obtain ⟨y, h1, h2⟩ := he a x hR
    refine ⟨y, ?_, ?_⟩
    · rw [iterP_eq, h1]; rfl
    · rw [rng_end]; exact h2
  | succ d ih =>
    intro k a x hk hR
    obtain ⟨c, h1, h2⟩ := hs a k x (by omega) hR
    rw [rng_succ (by omega)]
    simp only [walk]
    cases hg : g a k with
    | inl a' =>
      rw [hg] at h2
      obtain ⟨x', rfl, h3⟩ := h2
      obtain ⟨y, h4, h5⟩ := ih (k + 1) a' x' (by omega) h3
      refine ⟨y, ?_, h5⟩
      rw [iterP_eq, h1]; exact h4
    | inr e =>
      rw [hg] at h2
      obtain ⟨y, rfl, h3⟩ := h2
      refine ⟨y, ?_, h3⟩
      rw [iterP_eq, h1]; rfl
theorem loop_rel {A E α β : Type} {F : α → Option (α ⊕ β)} (g : A → Nat → A ⊕ E) (R : A → Nat → α → Prop) (Fin : A → β → Prop) (Ex : E → β → Prop) (n : Nat)
    (hs : ∀ a r x, r < n → R a r x → ∃ c, F x = some c ∧ match g a r with
      | .inl a' => ∃ x', c = .inl x' ∧ R a' (r + 1) x'
      | .inr e => ∃ y, c = .inr y ∧ Ex e y)
    (he : ∀ a x, R a n x → ∃ y, F x = some (.inr y) ∧ Fin a y) {a : A} {x : α} (h0 : R a 0 x) : ∃ y, iterP F x = some y ∧ outc Fin Ex (walk g a (List.range n)) y :=
  loop_from g R Fin Ex n hs he n 0 a x (by omega) h0
/-- the same, where the loop's states are made out of the walk's -/
theorem loop_fun {A E α β : Type} {F : α → Option (α ⊕ β)} (g : A → Nat → A ⊕ E) (emb : A → Nat → α) (fin : A → β) (ex : E → β) (n : Nat)
    (hs : ∀ a r, r < n → F (emb a r) = some (Sum.elim (fun a' => .inl (emb a' (r + 1))) (fun e => .inr (ex e)) (g a r)))
    (he : ∀ a, F (emb a n) = some (.inr (fin a))) {a : A} {x : α} (h0 : x = emb a 0) : iterP F x = some (Sum.elim fin ex (walk g a (List.range n))) := by
  obtain ⟨y, h1, h2⟩ := loop_rel (F := F) g (fun a r x => x = emb a r) (fun a y => y = fin a) (fun e y => y = ex e) n (fun a r x hr hx => by
    subst hx
    refine ⟨_, hs a r hr, ?_⟩
    cases g a r with
    | inl a' => exact ⟨_, rfl, rfl⟩
    | inr e => exact ⟨_, rfl, rfl⟩) (fun a x hx => by subst hx; exact ⟨_, he a, rfl⟩) h0
  rw [h1]
  cases hw : walk g a (List.range n) with
  | inl a' => rw [hw] at h2; exact congrArg some h2
  | inr e => rw [hw] at h2; exact congrArg some h2
/-- where states hold something -/
theorem loop_inv {A E α β : Type} {F : α → Option (α ⊕ β)} (g : A → Nat → A ⊕ E) (P : A → Nat → Prop) (emb : A → Nat → α) (fin : A → β) (ex : E → β) (n : Nat)
    (hs : ∀ a r, r < n → P a r → (F (emb a r) = some (Sum.elim (fun a' => .inl (emb a' (r + 1))) (fun e => .inr (ex e)) (g a r)) ∧ ∀ a', g a r = .inl a' → P a' (r + 1)))
    (he : ∀ a, P a n → F (emb a n) = some (.inr (fin a))) {a : A} {x : α} (h0 : x = emb a 0) (hP : P a 0) : iterP F x = some (Sum.elim fin ex (walk g a (List.range n))) := by
  obtain ⟨y, h1, h2⟩ := loop_rel (F := F) g (fun a r x => x = emb a r ∧ P a r) (fun a y => y = fin a) (fun e y => y = ex e) n (fun a r x hr hx => by
    obtain ⟨rfl, hp⟩ := hx
    obtain ⟨h1, h2⟩ := hs a r hr hp
    refine ⟨_, h1, ?_⟩
    cases hg : g a r with
    | inl a' => exact ⟨_, rfl, rfl, h2 a' hg⟩
    | inr e => exact ⟨_, rfl, rfl⟩) (fun a x hx => by obtain ⟨rfl, hp⟩ := hx; exact ⟨_, he a hp, rfl⟩) ⟨h0, hP⟩
  rw [h1]
  cases hw : walk g a (List.range n) with
  | inl a' => rw [hw] at h2; exact congrArg some h2
  | inr e => rw [hw] at h2; exact congrArg some h2
