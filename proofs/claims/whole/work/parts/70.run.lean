/-! RUNS: the step that a way takes, a run; the class's runner -/
def Fr (lo hi : Nat) (s s' : Mm) : Prop := ∀ i, ¬ (lo ≤ i ∧ i ≤ hi) → s'.1 i = s.1 i ∧ s'.2 i = s.2 i
theorem Fr.rf {lo hi : Nat} {s : Mm} : Fr lo hi s s := fun _ _ => ⟨rfl, rfl⟩
theorem Fr.tr {lo hi : Nat} {s s' s'' : Mm} (h1 : Fr lo hi s s') (h2 : Fr lo hi s' s'') : Fr lo hi s s'' := fun i hi => ⟨((h2 i hi).1).trans (h1 i hi).1, ((h2 i hi).2).trans (h1 i hi).2⟩
theorem Fr.mono {lo hi lo' hi' : Nat} {s s' : Mm} (h : Fr lo hi s s') (h1 : lo' ≤ lo) (h2 : hi ≤ hi') : Fr lo' hi' s s' := fun i hi => h i (fun hc => hi ⟨by omega, by omega⟩)
theorem Fr.mI {lo hi : Nat} {s s' : Mm} (h : Fr lo hi s s') {i : Nat} {f : Nat → Int32} (h1 : lo ≤ i) (h2 : i ≤ hi) : Fr lo hi s (mI s' i f) := fun j hj => ⟨by rw [mI_ne (fun e => hj (by omega))]; exact (h j hj).1, (h j hj).2⟩
theorem Fr.mL {lo hi : Nat} {s s' : Mm} (h : Fr lo hi s s') {i : Nat} {f : Nat → Int64} (h1 : lo ≤ i) (h2 : i ≤ hi) : Fr lo hi s (mL s' i f) := fun j hj => ⟨(h j hj).1, by rw [mL_ne (fun e => hj (by omega))]; exact (h j hj).2⟩
theorem Fr.I {lo hi : Nat} {s s' : Mm} (h : Fr lo hi s s') (i : Nat) (hi : ¬ (lo ≤ i ∧ i ≤ hi)) : s'.1 i = s.1 i := (h i hi).1
theorem Fr.L {lo hi : Nat} {s s' : Mm} (h : Fr lo hi s s') (i : Nat) (hi : ¬ (lo ≤ i ∧ i ≤ hi)) : s'.2 i = s.2 i := (h i hi).2
theorem RS.fr {lo hi r : Nat} {s s' : Mm} {S : Sys} (h : RS s r S) (hf : Fr lo hi s s') (hl : r + 5 < lo ∨ hi < r) : RS s' r S := by
  unfold RS
  rw [hf.I r (by omega), hf.I (r + 3) (by omega), hf.I (r + 4) (by omega), hf.L (r + 1) (by omega), hf.L (r + 2) (by omega)]
  exact h
theorem walk_ex {A E X : Type} {g : A → X → A ⊕ E} (P : A → Prop) (l : List X) (h : ∀ a x a', x ∈ l → P a → g a x = .inl a' → P a') : ∀ a e, P a → walk g a l = .inr e → ∃ a' x, P a' ∧ x ∈ l ∧ g a' x = .inr e := by
  induction l with
  | nil => intro a e _ he; cases he
  | cons x l ih =>
    intro a e hP he
    simp only [walk] at he
    cases hg : g a x with
    | inl a1 =>
      rw [hg] at he
      obtain ⟨a2, y, h1, h2, h3⟩ := ih (fun a y a' hy => h a y a' (by simp [hy])) a1 e (h a x a1 (by simp) hP hg) he
      exact ⟨a2, y, h1, by simp [h2], h3⟩
    | inr e' => rw [hg] at he; cases he; exact ⟨a, x, hP, by simp, hg⟩
def gch (S : Sys) (w : List Nat) (way : Nat) (b : Option (Nat × Nat)) (x : Nat × Nat) : Option (Nat × Nat) ⊕ (Nat × Nat) := if way = 0 then .inr x else match b with
  | none => .inl (some x)
  | some y => if way = 1 then .inl (some x) else if cmpS S (aft S w x) (aft S w y) < 0 then .inl (some x) else .inl (some y)
def chs (S : Sys) (w : List Nat) (way : Nat) : Option (Nat × Nat) := Sum.elim id some (walk (gch S w way) none (stps S w))
def okB (S : Sys) (w : List Nat) (b : Option (Nat × Nat)) : Prop := ∀ y, b = some y → okS S w y
theorem gch_ok {S : Sys} {w : List Nat} {way : Nat} {b b' : Option (Nat × Nat)} {x : Nat × Nat} (hx : okS S w x) (hb : okB S w b) (h : gch S w way b x = .inl b') : okB S w b' := by
  unfold gch at h
  split at h
  · cases h
  · split at h
    · cases h; intro y hy; cases hy; exact hx
    · split at h
      · cases h; intro y hy; cases hy; exact hx
      · split at h
        · cases h; intro y hy; cases hy; exact hx
        · cases h; exact hb
theorem gch_ex {S : Sys} {w : List Nat} {way : Nat} {b : Option (Nat × Nat)} {x e : Nat × Nat} (h : gch S w way b x = .inr e) : e = x := by
  unfold gch at h
  split at h
  · cases h; rfl
  · split at h
    · cases h
    · split at h
      · cases h
      · split at h <;> cases h
theorem chs_ok {S : Sys} {w : List Nat} {way : Nat} {x : Nat × Nat} (h : chs S w way = some x) : okS S w x := by
  unfold chs at h
  cases hw : walk (gch S w way) none (stps S w) with
  | inl b =>
    rw [hw] at h
    exact walk_inv (okB S w) (stps S w) (fun a x a' hx ha hg => gch_ok (mem_stps.mp hx) ha hg) none b (fun y hy => by cases hy) hw x h
  | inr e =>
    rw [hw] at h
    obtain ⟨a', y, -, h2, h3⟩ := walk_ex (okB S w) (stps S w) (fun a x a' hx ha hg => gch_ok (mem_stps.mp hx) ha hg) none e (fun y hy => by cases hy) hw
    cases h
    rw [gch_ex h3]
    exact mem_stps.mp h2
/-- a run, so many steps at most: the words that were ahead, the steps, the word, how it ended -/
def runF (S : Sys) (way : Nat) : Nat → List (List Nat) → List (Nat × Nat) → List Nat → List (List Nat) × List (Nat × Nat) × List Nat × Nat
  | 0, t, c, w => (t, c, w, match chs S w way with
    | none => 0
    | some _ => if w ∈ t then 1 else 2)
  | n + 1, t, c, w => match chs S w way with
    | none => (t, c, w, 0)
    | some x => if w ∈ t then (t, c, w, 1) else runF S way n (t ++ [w]) (c ++ [x]) (aft S w x)
def runS (S : Sys) (way : Nat) (w : List Nat) : List (List Nat) × List (Nat × Nat) × List Nat × Nat := runF S way 60 [] [] w
section CC
variable {h : Nat} {s : Mm} {S : Sys} {w : List Nat}
theorem codO_ne {S : Sys} {w : List Nat} {b : Option (Nat × Nat)} : (i32 (codO b) = (-1 : Int32)) = (b = none) ∨ ¬ okB S w b ∨ ¬ WfS S ∨ ¬ Ww w := by
  by_cases h1 : okB S w b
  · by_cases h2 : WfS S
    · by_cases h3 : Ww w
      · refine Or.inl ?_
        cases b with
        | none => simp [codO, qm1]
        | some y =>
          obtain ⟨-, -, e3⟩ := cod_ok h2 h3 (h1 y rfl)
          rw [qm1, eq32 (by unfold codO; simp only []; omega) (by unfold codO; simp only []; omega) (by omega) (by omega)]
          unfold codO
          simp only [reduceCtorEq, eq_iff_iff, iff_false]
          try omega
      · exact Or.inr (Or.inr (Or.inr h3))
    · exact Or.inr (Or.inr (Or.inl h2))
  · exact Or.inr (Or.inl h1)
theorem codO_eq {S : Sys} {w : List Nat} {b : Option (Nat × Nat)} (hb : okB S w b) (hS : WfS S) (hw : Ww w) : (i32 (codO b) = (-1 : Int32)) = (b = none) := by
  rcases codO_ne (S := S) (w := w) (b := b) with h | h | h | h
  · exact h
  · exact absurd hb h
  · exact absurd hS h
  · exact absurd hw h
theorem c_choose (hS : WfS S) (hR : RS s 3 S) (hw : Wk S.1 w) {way : Nat} (hway : way ≤ 2) : fX9_choose (M h s) (h + 253) (i64 (cw w : Int)) (i32 (way : Int)) = some (i32 (codO (chs S w way))) := by
  have h12 := hS.2.1
  have hW := hw.ww hS.1.2
  have h16 := hW.1
  unfold fX9_choose
  have key := loop_inv (F := fLX9_choose_6 (M h s) (h + 253) (i64 (cw w : Int)) (i32 (way : Int))) (fun (b : Option (Nat × Nat)) p => walk (gch S w way) b (stepsAt S w p)) (fun b _ => okB S w b)
    (fun b p => (i32 (codO b), i32 (p : Int))) (fun b => .inr (i32 (codO b))) (fun e => .inl (i32 (cod e : Int))) w.length ?_ ?_ (a := none) (x := (-1, 0)) (show ((-1 : Int32), (0 : Int32)) = _ from by decide) (fun y hy => by cases hy)
  · rw [key, sb, conv_out]
    unfold chs
    cases walk (gch S w way) none (stps S w) with
    | inl b => rfl
    | inr e => rfl
  · intro b p hp hb
    have hin : iterP (fLX9_choose_18 (M h s) (h + 253) (i64 (cw w : Int)) (i32 (way : Int)) (i32 (p : Int))) (i32 (codO b), 0) = some (Sum.elim (fun b' => .inr (i32 (codO b'))) (fun e => .inl (i32 (cod e : Int))) (walk (gch S w way) b (stepsAt S w p))) := by
      rw [← conv_in]
      refine loop_inv _ (fun b _ => okB S w b) (fun b r => (i32 (codO b), i32 (r : Int))) (fun b => Sum.inr (i32 (codO b))) (fun (e : Nat × Nat) => Sum.inl (i32 (cod e : Int))) (nr S) ?_ ?_ rfl hb
      · intro b r hr hb
        constructor
        · unfold fLX9_choose_18
          rw [g_253_0, sb, g_3_1, sb, hR.2.1, if_neg (by rw [le32 (by omega) (by omega) (by omega) (by omega)]; omega)]
          simp only [sb, g_3_2, g_3_3, rdl hS hR hr, rdr hS hR hr, c_fits hW (wl hS hr) (wr hS hr) (show p ≤ 16 by omega)]
          by_cases c1 : fitR S w p r
          · have hx : okS S w (p, r) := ⟨hp, hr, c1⟩
            rw [if_pos c1, if_neg (by decide), if_pos c1, c_codeOf, sb]
            unfold gch
            by_cases c2 : way = 0
            · rw [if_pos (by rw [c2]; rfl), if_pos c2]; rfl
            · rw [if_neg (by rw [q0]; rw [eq32 (by omega) (by omega) (by omega) (by omega)]; omega), if_neg c2]
              cases b with
              | none =>
                rw [if_pos (by decide), xlet_eq, q1, a32]; rfl
              | some y =>
                rw [if_neg (by rw [codO_eq hb hS hW]; simp)]
                by_cases c3 : way = 1
                · simp only [c3]
                  rw [if_pos (by decide), xlet_eq, q1, a32]; rfl
                · rw [if_neg (by rw [q1]; rw [eq32 (by omega) (by omega) (by omega) (by omega)]; omega), show i32 (codO (some y)) = i32 (cod y : Int) from rfl]
                  simp only [o_3, sb, c_after hS hR hW hx, c_after hS hR hW (hb y rfl), c_order hS hR (aft_Wk hS hw hx) (aft_Wk hS hw (hb y rfl)), c3, if_false]
                  have h3 := cmpS_3 (S := S) (a := aft S w (p, r)) (b := aft S w y)
                  by_cases c4 : cmpS S (aft S w (p, r)) (aft S w y) < 0
                  · rw [if_neg (show ¬ (0 : Int32) ≤ i32 (cmpS S (aft S w (p, r)) (aft S w y)) by rw [q0]; rw [le32 (by omega) (by omega) (by omega) (by omega)]; omega), xlet_eq, q1, a32, if_pos c4]; rfl
                  · rw [if_pos (show (0 : Int32) ≤ i32 (cmpS S (aft S w (p, r)) (aft S w y)) by rw [q0]; rw [le32 (by omega) (by omega) (by omega) (by omega)]; omega), xlet_eq, q1, a32, if_neg c4]; rfl
          · rw [if_neg c1, if_pos rfl, xlet_eq, q1, a32, if_neg c1]; rfl
        · intro b' hb'
          by_cases c1 : fitR S w p r
          · rw [if_pos c1] at hb'
            exact gch_ok ⟨hp, hr, c1⟩ hb hb'
          · rw [if_neg c1] at hb'; cases hb'; exact hb
      · intro b hb
        unfold fLX9_choose_18
        rw [g_253_0, sb, g_3_1, sb, hR.2.1, if_pos (by rw [le32 (by omega) (by omega) (by omega) (by omega)]; omega)]
    constructor
    · unfold fLX9_choose_6
      rw [c_len hW, sb, if_neg (by rw [le32 (by omega) (by omega) (by omega) (by omega)]; omega), hin, sb]
      cases walk (gch S w way) b (stepsAt S w p) with
      | inl b' => simp only [Sum.elim_inl]; rw [xlet_eq, q1, a32]; rfl
      | inr e => rfl
    · intro b' hb'
      exact walk_inv (okB S w) (stepsAt S w p) (fun a x a' hx ha hg => gch_ok ⟨by rw [(mem_stepsAt.mp hx).1]; exact hp, (mem_stepsAt.mp hx).2⟩ ha hg) b b' hb hb'
  · intro b hb
    unfold fLX9_choose_6
    rw [c_len hW, sb, if_pos (by rw [le32 (by omega) (by omega) (by omega) (by omega)]; omega)]
end CC
