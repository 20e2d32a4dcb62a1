/-! NAMES in the order in which letters first come; rows of one pattern -/
def addN (ns : List Nat) (x : Nat) : List Nat := if x ∈ ns then ns else ns ++ [x]
def nms (A : List Nat) : List Nat := A.foldl addN []
def nix (ns : List Nat) (x : Nat) : Nat := ns.findIdx (fun y => decide (y = x))
def cnn (A : List Nat) : List Nat := A.map (nix (nms A))
def pat (A B : List Nat) : Prop := ∀ i j, i < A.length → j < A.length → (A.getD i 0 = A.getD j 0 ↔ B.getD i 0 = B.getD j 0)
theorem nms_snoc (A : List Nat) (x : Nat) : nms (A ++ [x]) = addN (nms A) x := by
  unfold nms
  rw [List.foldl_append]; rfl
theorem addN_mem {ns : List Nat} {x y : Nat} : y ∈ addN ns x ↔ y ∈ ns ∨ y = x := by
  unfold addN
  split
  · rename_i h
    exact ⟨Or.inl, fun hy => hy.elim id (fun e => e ▸ h)⟩
  · rw [List.mem_append, List.mem_singleton]
theorem nms_mem {A : List Nat} : ∀ {y : Nat}, y ∈ nms A ↔ y ∈ A := by
  have key : ∀ (l ns : List Nat) (y : Nat), y ∈ l.foldl addN ns ↔ y ∈ ns ∨ y ∈ l := by
    intro l
    induction l with
    | nil => intro ns y; simp
    | cons x l ih =>
      intro ns y
      rw [List.foldl_cons, ih, addN_mem, List.mem_cons, or_assoc]
  intro y
  unfold nms
  rw [key]; simp
theorem nix_lt {ns : List Nat} {x : Nat} (h : x ∈ ns) : nix ns x < ns.length := by
  unfold nix
  exact List.findIdx_lt_length_of_exists ⟨x, h, decide_eq_true rfl⟩
theorem nix_get {ns : List Nat} {x : Nat} (h : x ∈ ns) : ns.getD (nix ns x) 0 = x := by
  have hl := nix_lt h
  have := List.findIdx_getElem (p := fun y => decide (y = x)) (w := hl)
  rw [List.getD_eq_getElem?_getD, List.getElem?_eq_getElem hl]
  exact of_decide_eq_true this
theorem nix_inj {ns : List Nat} {x y : Nat} (hx : x ∈ ns) (hy : y ∈ ns) (h : nix ns x = nix ns y) : x = y := by
  rw [← nix_get hx, h, nix_get hy]
theorem nix_app1 {ns ms : List Nat} {x : Nat} (h : x ∈ ns) : nix (ns ++ ms) x = nix ns x := by
  have := nix_lt h
  unfold nix at *
  rw [List.findIdx_append, if_pos this]
theorem nix_new {ns : List Nat} {x : Nat} (h : x ∉ ns) : nix (ns ++ [x]) x = ns.length := by
  unfold nix
  have : ns.findIdx (fun y => decide (y = x)) = ns.length := List.findIdx_eq_length.mpr (fun y hy => decide_eq_false (fun e => h (e ▸ hy)))
  rw [List.findIdx_append, this, if_neg (by omega)]
  simp [List.findIdx_cons]
theorem nix_add {ns : List Nat} {x y : Nat} (h : y ∈ ns) : nix (addN ns x) y = nix ns y := by
  unfold addN
  split
  · rfl
  · exact nix_app1 h
theorem nix_self {ns : List Nat} {x : Nat} : nix (addN ns x) x = if x ∈ ns then nix ns x else ns.length := by
  unfold addN
  split
  · rfl
  · rename_i h; exact nix_new h
theorem addN_len {ns : List Nat} {x : Nat} : (addN ns x).length = if x ∈ ns then ns.length else ns.length + 1 := by
  unfold addN
  split
  · rfl
  · rw [List.length_append]; rfl
theorem cnn_snoc (A : List Nat) (x : Nat) : cnn (A ++ [x]) = cnn A ++ [if x ∈ A then nix (nms A) x else (nms A).length] := by
  unfold cnn
  rw [nms_snoc, List.map_append]
  congr 1
  · refine List.map_congr_left (fun y hy => nix_add (nms_mem.mpr hy))
  · simp only [List.map_cons, List.map_nil]
    rw [nix_self]
    by_cases c : x ∈ A
    · rw [if_pos (nms_mem.mpr c), if_pos c]
    · rw [if_neg (fun h => c (nms_mem.mp h)), if_neg c]
theorem cnn_len (A : List Nat) : (cnn A).length = A.length := by unfold cnn; rw [List.length_map]
theorem cnn_get {A : List Nat} {i : Nat} (hi : i < A.length) : (cnn A).getD i 0 = nix (nms A) (A.getD i 0) := by
  unfold cnn
  rw [List.getD_eq_getElem?_getD, List.getD_eq_getElem?_getD, List.getElem?_map, List.getElem?_eq_getElem hi]; rfl
theorem pat_of_cnn {A B : List Nat} (hl : A.length = B.length) (h : cnn A = cnn B) : pat A B := by
  intro i j hi hj
  have e1 : nix (nms A) (A.getD i 0) = nix (nms B) (B.getD i 0) := by rw [← cnn_get hi, ← cnn_get (hl ▸ hi), h]
  have e2 : nix (nms A) (A.getD j 0) = nix (nms B) (B.getD j 0) := by rw [← cnn_get hj, ← cnn_get (hl ▸ hj), h]
  have ma : ∀ k, k < A.length → A.getD k 0 ∈ nms A := fun k hk => nms_mem.mpr (getD_mem hk)
  have mb : ∀ k, k < A.length → B.getD k 0 ∈ nms B := fun k hk => nms_mem.mpr (getD_mem (hl ▸ hk))
  constructor
  · intro e
    refine nix_inj (mb i hi) (mb j hj) ?_
    rw [← e1, ← e2, e]
  · intro e
    refine nix_inj (ma i hi) (ma j hj) ?_
    rw [e1, e2, e]
theorem cnn_of_pat : ∀ (n : Nat) {A B : List Nat}, A.length = n → B.length = n → pat A B → cnn A = cnn B ∧ (nms A).length = (nms B).length := by
  intro n
  induction n with
  | zero =>
    intro A B ha hb _
    rw [List.length_eq_zero_iff.mp ha, List.length_eq_zero_iff.mp hb]
    exact ⟨rfl, rfl⟩
  | succ n ih =>
    intro A B ha hb hp
    rcases List.eq_nil_or_concat A with rfl | ⟨A', x, hA⟩
    · simp at ha
    · rcases List.eq_nil_or_concat B with rfl | ⟨B', y, hB⟩
      · simp at hb
      · rw [List.concat_eq_append] at hA hB
        subst hA; subst hB
        rw [List.length_append] at ha hb
        have ha : A'.length = n := by simpa using ha
        have hb : B'.length = n := by simpa using hb
        have hp' : pat A' B' := by
          intro i j hi hj
          have := hp i j (by rw [List.length_append]; omega) (by rw [List.length_append]; omega)
          rw [getD_app1 hi, getD_app1 hj, getD_app1 (by omega), getD_app1 (by omega)] at this
          exact this
        have hx : ∀ i, i < n → (A'.getD i 0 = x ↔ B'.getD i 0 = y) := by
          intro i hi
          have := hp i A'.length (by rw [List.length_append]; omega) (by rw [List.length_append]; show A'.length < A'.length + 1; omega)
          rw [getD_app1 (by omega), getD_app2, getD_app1 (by omega)] at this
          rw [show A'.length = B'.length by omega, getD_app2] at this
          exact this
        obtain ⟨h1, h2⟩ := ih ha hb hp'
        rw [cnn_snoc, cnn_snoc, nms_snoc, nms_snoc, addN_len, addN_len, h1]
        by_cases c : x ∈ A'
        · obtain ⟨i, hi, e⟩ := mem_getD (d := 0) c
          have ey : B'.getD i 0 = y := (hx i (by omega)).mp e
          have hy : y ∈ B' := ey ▸ getD_mem (by omega)
          have e3 : nix (nms A') x = nix (nms B') y := by
            rw [← e, ← ey, ← cnn_get hi, ← cnn_get (by omega), h1]
          rw [if_pos c, if_pos hy, if_pos (nms_mem.mpr c), if_pos (nms_mem.mpr hy), e3, h2]
          exact ⟨rfl, rfl⟩
        · have hy : y ∉ B' := fun hy => by
            obtain ⟨i, hi, e⟩ := mem_getD (d := 0) hy
            exact c ((hx i (by omega)).mpr e ▸ getD_mem (by omega))
          rw [if_neg c, if_neg hy, if_neg (fun h => c (nms_mem.mp h)), if_neg (fun h => hy (nms_mem.mp h)), h2]
          exact ⟨rfl, rfl⟩
theorem cnn_iff {A B : List Nat} (hl : A.length = B.length) : cnn A = cnn B ↔ pat A B := ⟨pat_of_cnn hl, fun h => (cnn_of_pat A.length rfl hl.symm h).1⟩
theorem pat_symm {A B : List Nat} (hl : A.length = B.length) (h : pat A B) : pat B A := fun i j hi hj => (h i j (hl ▸ hi) (hl ▸ hj)).symm
/-- both sides read backwards -/
def rv (l r : List Nat) : List Nat := l.reverse ++ r.reverse
def rvi (a b i : Nat) : Nat := if i < a then a - 1 - i else a + (b - 1 - (i - a))
theorem rv_get {l r : List Nat} {i : Nat} (hi : i < l.length + r.length) : (rv l r).getD i 0 = (l ++ r).getD (rvi l.length r.length i) 0 := by
  unfold rv rvi
  by_cases c : i < l.length
  · rw [if_pos c, getD_app1 (by rw [List.length_reverse]; exact c), getD_app1 (by omega), List.getD_eq_getElem?_getD, List.getD_eq_getElem?_getD, List.getElem?_reverse c]
  · rw [if_neg c, List.getD_eq_getElem?_getD, List.getD_eq_getElem?_getD, List.getElem?_append_right (by rw [List.length_reverse]; omega), List.getElem?_append_right (by omega), List.length_reverse, List.getElem?_reverse (by omega)]
    congr 2
    omega
theorem pat_rv {l r l' r' : List Nat} (h1 : l.length = l'.length) (h2 : r.length = r'.length) (h : pat (l ++ r) (l' ++ r')) : pat (rv l r) (rv l' r') := by
  intro i j hi hj
  have hle : (rv l r).length = l.length + r.length := by unfold rv; rw [List.length_append, List.length_reverse, List.length_reverse]
  rw [hle] at hi hj
  rw [rv_get hi, rv_get hj, rv_get (by omega), rv_get (by omega), ← h1, ← h2]
  have hb : ∀ i, i < l.length + r.length → rvi l.length r.length i < (l ++ r).length := fun i hi => by
    unfold rvi
    rw [List.length_append]
    split <;> omega
  exact h _ _ (hb i hi) (hb j hj)
theorem rv_rv (l r : List Nat) : rv l.reverse r.reverse = l ++ r := by unfold rv; rw [List.reverse_reverse, List.reverse_reverse]
/-- a rule's row of names, ahead and backwards, and the lesser of them -/
def hA (l r : List Nat) : List Nat := cnn (l ++ r)
def hB (l r : List Nat) : List Nat := cnn (rv l r)
def fdx (a b : List Nat) : Option Nat := (List.range a.length).find? (fun k => decide (¬ a.getD k 0 = b.getD k 0))
def lessB (a b : List Nat) : Bool := match fdx a b with
  | some k => decide (b.getD k 0 < a.getD k 0)
  | none => false
/-- the head of a rule, left and right in one row -/
def hd (l r : List Nat) : List Nat := if lessB (hA l r) (hB l r) = true then hB l r else hA l r
theorem fdx_none {a b : List Nat} (hl : a.length = b.length) (h : fdx a b = none) : a = b := by
  unfold fdx at h
  apply List.ext_getElem hl
  intro k h1 h2
  have := find_none h k h1
  rw [decide_eq_false_iff_not, Decidable.not_not, List.getD_eq_getElem?_getD, List.getD_eq_getElem?_getD, List.getElem?_eq_getElem h1, List.getElem?_eq_getElem h2] at this
  exact this
theorem fdx_symm {a b : List Nat} (hl : a.length = b.length) : fdx a b = fdx b a := by
  unfold fdx
  rw [hl]
  congr 1
  funext k
  exact decide_eq_decide.mpr ⟨fun h e => h e.symm, fun h e => h e.symm⟩
/-- of two rows the lesser, whichever is told first -/
theorem less_symm {a b : List Nat} (hl : a.length = b.length) : (if lessB a b = true then b else a) = (if lessB b a = true then a else b) := by
  unfold lessB
  rw [fdx_symm hl]
  cases hf : fdx b a with
  | none => simp only []; rw [if_neg (by decide), if_neg (by decide)]; exact (fdx_none hl.symm hf).symm
  | some k =>
    simp only []
    unfold fdx at hf
    obtain ⟨-, h2, -⟩ := find_some hf
    rw [decide_eq_true_eq] at h2
    by_cases c : b.getD k 0 < a.getD k 0
    · rw [if_pos (decide_eq_true c), if_neg (by rw [decide_eq_true_eq]; omega)]
    · rw [if_neg (by rw [decide_eq_true_eq]; exact c), if_pos (by rw [decide_eq_true_eq]; omega)]
theorem hA_len (l r : List Nat) : (hA l r).length = l.length + r.length := by unfold hA; rw [cnn_len, List.length_append]
theorem hB_len (l r : List Nat) : (hB l r).length = l.length + r.length := by unfold hB rv; rw [cnn_len, List.length_append, List.length_reverse, List.length_reverse]
/-- two rules have one head just if one becomes the other by other names, read ahead or backwards -/
theorem hd_kin {l r l' r' : List Nat} (h1 : l.length = l'.length) (h2 : r.length = r'.length) : hd l r = hd l' r' ↔ (pat (l ++ r) (l' ++ r') ∨ pat (l ++ r) (rv l' r')) := by
  have hla : (l ++ r).length = (l' ++ r').length := by rw [List.length_append, List.length_append]; omega
  have hlr : ∀ a b : List Nat, (rv a b).length = a.length + b.length := fun a b => by unfold rv; rw [List.length_append, List.length_reverse, List.length_reverse]
  have hlb : (l ++ r).length = (rv l' r').length := by rw [hlr, List.length_append]; omega
  have hlc : (rv l r).length = (l' ++ r').length := by rw [hlr, List.length_append]; omega
  have hld : (rv l r).length = (rv l' r').length := by rw [hlr, hlr]; omega
  constructor
  · intro h
    unfold hd at h
    split at h <;> split at h
    · have := (cnn_iff hld).mp h
      have := pat_rv (l := l.reverse) (r := r.reverse) (l' := l'.reverse) (r' := r'.reverse) (by simp [h1]) (by simp [h2]) this
      rw [rv_rv, rv_rv] at this
      exact Or.inl this
    · have := (cnn_iff hlc).mp h
      have := pat_rv (l := l.reverse) (r := r.reverse) (l' := l') (r' := r') (by simp [h1]) (by simp [h2]) this
      rw [rv_rv] at this
      exact Or.inr this
    · exact Or.inr ((cnn_iff hlb).mp h)
    · exact Or.inl ((cnn_iff hla).mp h)
  · rintro (h | h)
    · have e1 : hA l r = hA l' r' := (cnn_iff hla).mpr h
      have e2 : hB l r = hB l' r' := (cnn_iff hld).mpr (pat_rv h1 h2 h)
      unfold hd
      rw [e1, e2]
    · have e1 : hA l r = hB l' r' := (cnn_iff hlb).mpr h
      have e2 : hB l r = hA l' r' := by
        have := pat_rv (l := l) (r := r) (l' := l'.reverse) (r' := r'.reverse) (by simp [h1]) (by simp [h2]) h
        rw [rv_rv] at this
        exact (cnn_iff hlc).mpr this
      unfold hd
      rw [e1, e2]
      exact less_symm (by rw [hA_len, hB_len])
