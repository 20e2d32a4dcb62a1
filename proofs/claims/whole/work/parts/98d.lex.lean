/-! READING, the pure side: tokens -/
def fwd (P : Nat → Bool) : Nat → Nat → Nat
  | 0, p => p
  | f + 1, p => if P p = true then fwd P f (p + 1) else p
def fw (P : Nat → Bool) (n p : Nat) : Nat := fwd P (n - p) p
theorem fwd_spec (P : Nat → Bool) : ∀ f p, p ≤ fwd P f p ∧ fwd P f p ≤ p + f ∧ (∀ q, p ≤ q → q < fwd P f p → P q = true) ∧ (fwd P f p < p + f → P (fwd P f p) = false) := by
  intro f
  induction f with
  | zero => intro p; exact ⟨Nat.le_refl _, Nat.le_refl _, fun q a b => absurd b (by show ¬ q < p; omega), fun h9 => absurd h9 (by show ¬ p < p + 0; omega)⟩
  | succ f ih =>
    intro p
    rw [fwd]
    by_cases c : P p = true
    · rw [if_pos c]
      obtain ⟨h1, h2, h3, h4⟩ := ih (p + 1)
      refine ⟨by omega, by omega, fun q a b => ?_, fun h9 => h4 (by omega)⟩
      by_cases e : q = p
      · rw [e]; exact c
      · exact h3 q (by omega) b
    · rw [if_neg c]
      refine ⟨Nat.le_refl _, by omega, fun q a b => absurd b (by omega), fun _ => ?_⟩
      cases hp : P p with
      | true => exact absurd hp c
      | false => rfl
theorem fw_spec (P : Nat → Bool) {n p : Nat} (hp : p ≤ n) : p ≤ fw P n p ∧ fw P n p ≤ n ∧ (∀ q, p ≤ q → q < fw P n p → P q = true) ∧ (fw P n p < n → P (fw P n p) = false) := by
  obtain ⟨h1, h2, h3, h4⟩ := fwd_spec P (n - p) p
  exact ⟨h1, by unfold fw; omega, h3, fun h9 => h4 (by unfold fw at h9; omega)⟩
theorem loop_fw {α β : Type} {F : α → Option (α ⊕ β)} (P : Nat → Bool) (st : Nat → α) (out : Nat → β) {n p0 : Nat} (hp : p0 ≤ n) (hn : P n = false) (hF : ∀ p, p0 ≤ p → p ≤ n → (∀ q, p0 ≤ q → q < p → P q = true) → F (st p) = some (if P p = true then .inl (st (p + 1)) else .inr (out p))) {x : α} (h0 : x = st p0) : iterP F x = some (out (fw P n p0)) := by
  have key : ∀ f p, p + f = n → p0 ≤ p → (∀ q, p0 ≤ q → q < p → P q = true) → iterP F (st p) = some (out (fwd P f p)) := by
    intro f
    induction f with
    | zero =>
      intro p h1 h2 h3
      have e : p = n := by omega
      rw [iterP_eq, hF p h2 (by omega) h3, if_neg (by rw [e, hn]; decide)]; rfl
    | succ f ih =>
      intro p h1 h2 h3
      rw [fwd]
      by_cases c : P p = true
      · rw [iterP_eq, hF p h2 (by omega) h3, if_pos c, if_pos c]
        refine ih (p + 1) (by omega) (by omega) (fun q a b => ?_)
        by_cases e : q = p
        · rw [e]; exact c
        · exact h3 q a (by omega)
      · rw [iterP_eq, hF p h2 (by omega) h3, if_neg c, if_neg c]; rfl
  rw [h0]
  exact key (n - p0) p0 (by omega) (Nat.le_refl _) (fun q a b => absurd b (by omega))
def bt (B : List Nat) (p : Nat) : Nat := B.getD p 0
def knd (B : List Nat) (p : Nat) : Nat := if B.length ≤ p then 0 else if 97 ≤ bt B p ∧ bt B p ≤ 122 then 1 else if 48 ≤ bt B p ∧ bt B p ≤ 57 then 2 else 3
def spc (B : List Nat) (p : Nat) : Bool := decide (p < B.length ∧ (bt B p = 32 ∨ bt B p = 10))
/-- a token: where it begins, its kind, where it ends -/
abbrev Tk : Type := Nat × Nat × Nat
def kdB (B : List Nat) (k : Nat) (q : Nat) : Bool := decide (knd B q = k)
def tkE (B : List Nat) (f : Nat) : Nat := if knd B f = 0 then f else if knd B f = 3 then f + 1 else fw (kdB B (knd B f)) B.length (f + 1)
def tkF (B : List Nat) (p : Nat) : Nat := fw (spc B) B.length p
def nx (B : List Nat) (p : Nat) : Tk := (tkF B p, knd B (tkF B p), tkE B (tkF B p))
theorem knd_3 (B : List Nat) (p : Nat) : knd B p ≤ 3 := by
  unfold knd
  split
  · omega
  · split
    · omega
    · split <;> omega
theorem knd_0 {B : List Nat} {p : Nat} : knd B p = 0 ↔ B.length ≤ p := by
  unfold knd
  split
  · exact ⟨fun _ => by assumption, fun _ => rfl⟩
  · rename_i h9
    refine ⟨fun h8 => ?_, fun h8 => absurd h8 h9⟩
    split at h8
    · exact absurd h8 (by decide)
    · split at h8 <;> exact absurd h8 (by decide)
theorem knd_1 {B : List Nat} {p : Nat} (h : knd B p = 1) : p < B.length ∧ 97 ≤ bt B p ∧ bt B p ≤ 122 := by
  unfold knd at h
  split at h
  · exact absurd h (by decide)
  · split at h
    · rename_i a b
      exact ⟨by omega, b⟩
    · split at h <;> exact absurd h (by decide)
theorem knd_2 {B : List Nat} {p : Nat} (h : knd B p = 2) : p < B.length ∧ 48 ≤ bt B p ∧ bt B p ≤ 57 := by
  unfold knd at h
  split at h
  · exact absurd h (by decide)
  · split at h
    · exact absurd h (by decide)
    · split at h
      · rename_i a b c
        exact ⟨by omega, c⟩
      · exact absurd h (by decide)
/-- what holds of a token -/
def TV (B : List Nat) (t : Tk) : Prop := t.1 ≤ B.length ∧ t.2.2 ≤ B.length ∧ t.1 ≤ t.2.2 ∧ t.2.1 = knd B t.1 ∧ t.2.1 ≤ 3 ∧ (t.2.1 ≠ 0 → t.1 < t.2.2) ∧ (t.2.1 = 1 ∨ t.2.1 = 2 → ∀ q, t.1 ≤ q → q < t.2.2 → knd B q = t.2.1)
theorem nx_tv {B : List Nat} {p : Nat} (hp : p ≤ B.length) : TV B (nx B p) ∧ p ≤ (nx B p).1 := by
  obtain ⟨f1, f2, f3, f4⟩ := fw_spec (spc B) hp
  unfold nx TV
  simp only []
  have hf : tkF B p = fw (spc B) B.length p := rfl
  rw [hf]
  refine ⟨⟨f2, ?_⟩, f1⟩
  have h3 := knd_3 B (fw (spc B) B.length p)
  unfold tkE
  by_cases c0 : knd B (fw (spc B) B.length p) = 0
  · rw [if_pos c0]
    refine ⟨f2, Nat.le_refl _, trivial, h3, fun h9 => absurd c0 h9, fun h9 => by rw [c0] at h9; rcases h9 with h9 | h9 <;> exact absurd h9 (by decide)⟩
  · have hlt : fw (spc B) B.length p < B.length := by
      by_cases c : B.length ≤ fw (spc B) B.length p
      · exact absurd (knd_0.mpr c) c0
      · omega
    rw [if_neg c0]
    by_cases c3 : knd B (fw (spc B) B.length p) = 3
    · rw [if_pos c3]
      refine ⟨by omega, by omega, trivial, h3, fun _ => by omega, fun h9 => by rw [c3] at h9; rcases h9 with h9 | h9 <;> exact absurd h9 (by decide)⟩
    · rw [if_neg c3]
      obtain ⟨e1, e2, e3, e4⟩ := fw_spec (kdB B (knd B (fw (spc B) B.length p))) (show fw (spc B) B.length p + 1 ≤ B.length by omega)
      refine ⟨e2, by omega, trivial, h3, fun _ => by omega, fun _ q a b => ?_⟩
      by_cases c : q = fw (spc B) B.length p
      · rw [c]
      · exact of_decide_eq_true (e3 q (by omega) b)
/-! the class's tokens -/
def RT (s : Mm) (B : List Nat) : Prop := s.1 246 2 = i32 (B.length : Int) ∧ (∀ j, j < B.length → s.1 1 j = i32 (bt B j : Int)) ∧ B.length ≤ 300 ∧ ∀ j, bt B j < 256
def CT (s : Mm) (B : List Nat) (t : Tk) : Prop := RT s B ∧ s.1 246 3 = i32 (t.2.1 : Int) ∧ s.1 246 4 = i32 (t.1 : Int) ∧ s.1 246 5 = i32 (t.2.2 : Int)
section LX
variable {h : Nat} {s : Mm} {B : List Nat}
theorem RT.f {j : Nat} {v : Int32} (hT : RT s B) (hj : j ≠ 2) : RT (mI s 246 (upd (s.1 246) j v)) B := ⟨by rw [mI_at, upd_ne (Ne.symm hj)]; exact hT.1, fun i hi => by rw [mI_ne (by decide)]; exact hT.2.1 i hi, hT.2.2⟩
theorem c_byte (hT : RT s B) {p : Nat} (hp : p < B.length) : aI (M h s) (h + 1) 0 (i32 (p : Int)) = some (i32 (bt B p : Int)) := by
  have := hT.2.2.1
  rw [a_1 (by omega) (by omega), tn0, hT.2.1 p hp]
theorem c_kind (hT : RT s B) {p : Nat} (hp : p ≤ 300) : fX7_kindAt (M h s) (h + 246) (i32 (p : Int)) = some (i32 (knd B p : Int)) := by
  have hl := hT.2.2.1
  have hb := hT.2.2.2 p
  unfold fX7_kindAt fJX7_kindAt_m_34 knd
  rw [g_246_2, sb, hT.1]
  by_cases c0 : B.length ≤ p
  · rw [if_neg (by rw [lt32 (by omega) (by omega) (by omega) (by omega)]; omega), if_pos c0]; rfl
  · rw [if_pos (by rw [lt32 (by omega) (by omega) (by omega) (by omega)]; omega), if_neg c0, g_246_1, sb, c_byte hT (by omega), sb, q97]
    by_cases c1 : bt B p < 97
    · rw [if_pos (by rw [lt32 (by omega) (by omega) (by omega) (by omega)]; omega), if_neg (show ¬ (97 ≤ bt B p ∧ bt B p ≤ 122) by omega), sb, c_byte hT (by omega), sb, q48]
      by_cases c2 : bt B p < 48
      · rw [if_pos (by rw [lt32 (by omega) (by omega) (by omega) (by omega)]; omega), if_neg (by omega)]; rfl
      · rw [if_neg (by rw [lt32 (by omega) (by omega) (by omega) (by omega)]; omega), sb, c_byte hT (by omega), sb, q57]
        by_cases c3 : 57 < bt B p
        · rw [if_pos (by rw [lt32 (by omega) (by omega) (by omega) (by omega)]; omega), if_neg (by omega)]; rfl
        · rw [if_neg (by rw [lt32 (by omega) (by omega) (by omega) (by omega)]; omega), if_pos (by omega)]; rfl
    · rw [if_neg (by rw [lt32 (by omega) (by omega) (by omega) (by omega)]; omega), sb, c_byte hT (by omega), sb, q122]
      by_cases c2 : 122 < bt B p
      · rw [if_pos (by rw [lt32 (by omega) (by omega) (by omega) (by omega)]; omega), if_neg (show ¬ (97 ≤ bt B p ∧ bt B p ≤ 122) by omega), if_neg (show ¬ (48 ≤ bt B p ∧ bt B p ≤ 57) by omega), sb, c_byte hT (by omega), sb, q48, if_neg (by rw [lt32 (by omega) (by omega) (by omega) (by omega)]; omega), sb, c_byte hT (by omega), sb, q57, if_pos (by rw [lt32 (by omega) (by omega) (by omega) (by omega)]; omega)]; rfl
      · rw [if_neg (by rw [lt32 (by omega) (by omega) (by omega) (by omega)]; omega), if_pos (by omega)]; rfl
theorem c_next {p : Nat} (hT : RT s B) (hp : s.1 246 5 = i32 (p : Int)) (hpl : p ≤ B.length) : ∃ s', fX7_next (M h s) (h + 246) = some (M h s') ∧ Fr 246 246 s s' ∧ CT s' B (nx B p) := by
  have hl := hT.2.2.1
  have h1 : iterP (fLX7_next_8 (h + 246)) (M h (mI s 246 (upd (s.1 246) 4 (i32 (p : Int))))) = some (M h (mI s 246 (upd (s.1 246) 4 (i32 (tkF B p : Int))))) := by
    refine loop_fw (spc B) (fun p => M h (mI s 246 (upd (s.1 246) 4 (i32 (p : Int))))) (fun p => M h (mI s 246 (upd (s.1 246) 4 (i32 (p : Int))))) hpl (decide_eq_false (by omega)) (fun q a b _ => ?_) rfl
    have hT1 : RT (mI s 246 (upd (s.1 246) 4 (i32 (q : Int)))) B := hT.f (by decide)
    unfold fLX7_next_8
    rw [g_246_4, sb, mI_at, upd_at, g_246_2, sb, hT1.1]
    by_cases c : B.length ≤ q
    · rw [if_pos (by rw [le32 (by omega) (by omega) (by omega) (by omega)]; omega), if_neg (by unfold spc; rw [decide_eq_true_eq]; omega)]
    · have hb := hT.2.2.2 q
      rw [if_neg (by rw [le32 (by omega) (by omega) (by omega) (by omega)]; omega), g_246_1, sb, sb, c_byte hT1 (by omega), sb, show (32 : Int32) = i32 32 from rfl]
      by_cases c1 : bt B q = 32
      · rw [if_pos (by rw [c1]; rfl), if_pos (by unfold spc; rw [decide_eq_true_eq]; omega), sb, w_246_4, sb, q1, a32, mI_mI, mI_at, upd_upd]; rfl
      · rw [if_neg (by rw [eq32 (by omega) (by omega) (by omega) (by omega)]; omega), sb, sb, c_byte hT1 (by omega), sb, q10]
        by_cases c2 : bt B q = 10
        · rw [if_pos (by rw [c2]; rfl), if_pos (by unfold spc; rw [decide_eq_true_eq]; omega), sb, w_246_4, sb, q1, a32, mI_mI, mI_at, upd_upd]; rfl
        · rw [if_neg (by rw [eq32 (by omega) (by omega) (by omega) (by omega)]; omega), if_neg (by unfold spc; rw [decide_eq_true_eq]; omega)]
  obtain ⟨f1, f2, f3, f4⟩ := fw_spec (spc B) hpl
  have hf : tkF B p = fw (spc B) B.length p := rfl
  have hkb := knd_3 B (tkF B p)
  obtain ⟨s1, es1⟩ : ∃ s1, s1 = mI s 246 (upd (s.1 246) 4 (i32 (tkF B p : Int))) := ⟨_, rfl⟩
  have hT1 : RT s1 B := by rw [es1]; exact hT.f (by decide)
  have a14 : s1.1 246 4 = i32 (tkF B p : Int) := by rw [es1, mI_at, upd_at]
  obtain ⟨s2, es2⟩ : ∃ s2, s2 = mI s1 246 (upd (s1.1 246) 3 (i32 (knd B (tkF B p) : Int))) := ⟨_, rfl⟩
  have hT2 : RT s2 B := by rw [es2]; exact hT1.f (by decide)
  have a24 : s2.1 246 4 = i32 (tkF B p : Int) := by rw [es2, mI_at, upd_ne (by decide)]; exact a14
  have a23 : s2.1 246 3 = i32 (knd B (tkF B p) : Int) := by rw [es2, mI_at, upd_at]
  have hF2 : Fr 246 246 s s2 := by rw [es2, es1]; exact (Fr.rf.mI (by decide) (by decide)).mI (by decide) (by decide)
  have h2 : ∀ q0 : Nat, q0 ≤ B.length → iterP (fLX7_next_96 (h + 246)) (M h (mI s2 246 (upd (s2.1 246) 5 (i32 (q0 : Int))))) = some (M h (mI s2 246 (upd (s2.1 246) 5 (i32 ((if knd B (tkF B p) = 1 ∨ knd B (tkF B p) = 2 then fw (kdB B (knd B (tkF B p))) B.length q0 else q0 : Nat) : Int))))) := by
    intro q0 hq0
    by_cases c : knd B (tkF B p) = 1 ∨ knd B (tkF B p) = 2
    · rw [if_pos c]
      refine loop_fw (kdB B (knd B (tkF B p))) (fun p => M h (mI s2 246 (upd (s2.1 246) 5 (i32 (p : Int))))) (fun p => M h (mI s2 246 (upd (s2.1 246) 5 (i32 (p : Int))))) hq0 (decide_eq_false (by rw [knd_0.mpr (Nat.le_refl _)]; omega)) (fun q a b _ => ?_) rfl
      have hT3 : RT (mI s2 246 (upd (s2.1 246) 5 (i32 (q : Int)))) B := hT2.f (by decide)
      have b3 : (mI s2 246 (upd (s2.1 246) 5 (i32 (q : Int)))).1 246 3 = i32 (knd B (tkF B p) : Int) := by rw [mI_at, upd_ne (by decide)]; exact a23
      have b5 : (mI s2 246 (upd (s2.1 246) 5 (i32 (q : Int)))).1 246 5 = i32 (q : Int) := by rw [mI_at, upd_at]
      have hk2 := knd_3 B q
      have hJ : fJX7_next_96_112 (M h (mI s2 246 (upd (s2.1 246) 5 (i32 (q : Int))))) (h + 246) = some (if kdB B (knd B (tkF B p)) q = true then .inl (M h (mI s2 246 (upd (s2.1 246) 5 (i32 ((q + 1 : Nat) : Int))))) else .inr (M h (mI s2 246 (upd (s2.1 246) 5 (i32 (q : Int)))))) := by
        unfold fJX7_next_96_112
        rw [g_246_5, sb, b5, g_246_2, sb, hT3.1]
        by_cases c2 : B.length ≤ q
        · rw [if_pos (by rw [le32 (by omega) (by omega) (by omega) (by omega)]; omega), if_neg (by unfold kdB; rw [decide_eq_true_eq, knd_0.mpr c2]; omega)]
        · rw [if_neg (by rw [le32 (by omega) (by omega) (by omega) (by omega)]; omega), sb, o_246, sb, c_kind hT3 (by omega), sb, g_246_3, sb, b3]
          by_cases c3 : knd B q = knd B (tkF B p)
          · rw [if_pos (by rw [c3]), if_pos (by unfold kdB; exact decide_eq_true c3), sb, w_246_5, sb, q1, a32, mI_mI, mI_at, upd_upd]; rfl
          · rw [if_neg (by rw [eq32 (by omega) (by omega) (by omega) (by omega)]; omega), if_neg (by unfold kdB; rw [decide_eq_true_eq]; exact c3)]
      unfold fLX7_next_96
      rw [g_246_3, sb, b3, q1]
      by_cases c4 : knd B (tkF B p) = 1
      · rw [if_pos (by rw [c4]; rfl)]; exact hJ
      · rw [if_neg (by rw [eq32 (by omega) (by omega) (by omega) (by omega)]; omega), sb, q2, if_pos (by rw [show knd B (tkF B p) = 2 by omega]; rfl)]; exact hJ
    · rw [if_neg c]
      refine iter_to 0 (fun _ => M h (mI s2 246 (upd (s2.1 246) 5 (i32 (q0 : Int))))) rfl (fun k hk => absurd hk (by omega)) ?_
      have b3 : (mI s2 246 (upd (s2.1 246) 5 (i32 (q0 : Int)))).1 246 3 = i32 (knd B (tkF B p) : Int) := by rw [mI_at, upd_ne (by decide)]; exact a23
      unfold fLX7_next_96
      rw [g_246_3, sb, b3, q1, if_neg (by rw [eq32 (by omega) (by omega) (by omega) (by omega)]; omega), sb, q2, if_neg (by rw [eq32 (by omega) (by omega) (by omega) (by omega)]; omega)]
  refine ⟨mI s2 246 (upd (s2.1 246) 5 (i32 (tkE B (tkF B p) : Int))), ?_, hF2.mI (by decide) (by decide), hT2.f (by decide), ?_, ?_, ?_⟩
  · have w3 : wrF (M h s1) (h + 246) 7 3 (.int (i32 (knd B (tkF B p) : Int))) = some (M h s2) := by rw [w_246_3, es2]
    unfold fX7_next fJX7_next_m_60 fJX7_next_m_93
    rw [g_246_5, sb, hp, w_246_4, sb, h1, sb, ← es1, g_246_4, sb, a14, o_246, sb, c_kind hT1 (by omega), sb, w3, sb, g_246_3, sb, a23]
    unfold tkE
    by_cases c0 : knd B (tkF B p) = 0
    · rw [if_pos (by rw [c0]; rfl), g_246_4, sb, a24, w_246_5, sb, h2 _ (by omega), sb, if_neg (by omega), if_pos c0]
    · have hlt : tkF B p < B.length := by
        by_cases c : B.length ≤ tkF B p
        · exact absurd (knd_0.mpr c) c0
        · omega
      rw [if_neg (by rw [q0]; rw [eq32 (by omega) (by omega) (by omega) (by omega)]; omega), g_246_4, sb, a24, w_246_5, sb, q1, a32, show i32 ((tkF B p : Int) + 1) = i32 (((tkF B p + 1 : Nat)) : Int) from rfl, h2 _ (by omega), sb, if_neg c0]
      by_cases c3 : knd B (tkF B p) = 3
      · rw [if_neg (by omega), if_pos c3]
      · rw [if_pos (by omega), if_neg c3]
  · rw [mI_at, upd_ne (by decide)]; exact a23
  · rw [mI_at, upd_ne (by decide)]; exact a24
  · rw [mI_at, upd_at]; rfl
end LX
