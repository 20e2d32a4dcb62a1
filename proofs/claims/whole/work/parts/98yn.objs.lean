/-! THE START: rules, a desk -/
section OB
variable {h : Nat} {e : Nat → Option xE}
def zI (n : Nat) : xE := .inl (0, n, .inl (fun _ => 0))
def zL (n : Nat) : xE := .inl (1, n, .inr (.inl (fun _ => 0)))
def n8 : List Value := [.int 0, .int 0, .null, .null, .null, .null, .int 0, .null, .int 0]
def f8 (h r : Nat) : List Value := [.int 2, .int 0, .ref (h + (r + 1)), .ref (h + (r + 2)), .ref (h + (r + 3)), .ref (h + (r + 4)), .int 1, .ref (h + (r + 5)), .int 0]
theorem fin8 {E : Nat → Option xE} {r : Nat} (hr : r + 5 < 340) (h0 : E r = some (.inr (8, [.int 2, .int 0, .ref (h + (r + 1)), .ref (h + (r + 2)), .ref (h + (r + 3)), .ref (h + (r + 4)), .int 0, .ref (h + (r + 5)), .int 0]))) (h1 : E (r + 1) = some (zL 12)) (h2 : E (r + 2) = some (zL 12)) (h3 : E (r + 3) = some (zI 5)) (h4 : E (r + 4) = some (zI 5)) (h5 : E (r + 5) = some (zI 5)) (hf : ∀ i, ¬ (r ≤ i ∧ i ≤ r + 5) → E i = e i) : ∃ e', ((fX8_startAnew (Te h E) (h + r) 2).bind fun w => some w) = some (Te h e') ∧ e' r = some (.inr (8, f8 h r)) ∧ e' (r + 1) = some (zL 12) ∧ e' (r + 2) = some (zL 12) ∧ (∃ f, e' (r + 3) = some (.inl (0, 5, .inl f)) ∧ ∀ j, j < 5 → f j = 1) ∧ (∃ f, e' (r + 4) = some (.inl (0, 5, .inl f)) ∧ ∀ j, j < 5 → f j = i32 (j : Int)) ∧ e' (r + 5) = some (zI 5) ∧ ∀ i, ¬ (r ≤ i ∧ i ≤ r + 5) → e' i = e i := by
  have hr0 : r < 340 := by omega
  obtain ⟨E1, hE1⟩ : ∃ E1, E1 = eu (eu E r (.inr (8, ([.int 2, .int 0, .ref (h + (r + 1)), .ref (h + (r + 2)), .ref (h + (r + 3)), .ref (h + (r + 4)), .int 0, .ref (h + (r + 5)), .int 0] : List Value).set 0 (.int 2)))) r (.inr (8, (([.int 2, .int 0, .ref (h + (r + 1)), .ref (h + (r + 2)), .ref (h + (r + 3)), .ref (h + (r + 4)), .int 0, .ref (h + (r + 5)), .int 0] : List Value).set 0 (.int 2)).set 1 (.int 0))) := ⟨_, rfl⟩
  have b0 : E1 r = some (.inr (8, [.int 2, .int 0, .ref (h + (r + 1)), .ref (h + (r + 2)), .ref (h + (r + 3)), .ref (h + (r + 4)), .int 0, .ref (h + (r + 5)), .int 0])) := by rw [hE1]; exact eu_at
  have bn : ∀ i, i ≠ r → E1 i = E i := fun i hi => by rw [hE1, eu_ne hi, eu_ne hi]
  obtain ⟨e', k1, k2, k3, k4⟩ := Te_anew (h := h) (e := E1) hr b0 rfl rfl rfl ⟨_, (bn _ (by omega)).trans h3⟩ ⟨_, (bn _ (by omega)).trans h4⟩
  have kr := (k4 r (by omega) (by omega)).trans b0
  unfold fX8_startAnew
  rw [Te_wr hr0 h0 (by simp), sb, Te_wr hr0 eu_at (by simp), sb, ← hE1, k1, sb, Te_gI hr0 kr rfl, sb, Te_wr hr0 kr (by simp), sb, sb]
  refine ⟨_, rfl, eu_at, ?_, ?_, ?_, ?_, ?_, fun i hi => ?_⟩
  · rw [eu_ne (by omega), k4 _ (by omega) (by omega), bn _ (by omega)]; exact h1
  · rw [eu_ne (by omega), k4 _ (by omega) (by omega), bn _ (by omega)]; exact h2
  · rw [eu_ne (by omega)]; exact k2
  · rw [eu_ne (by omega)]; exact k3
  · rw [eu_ne (by omega), k4 _ (by omega) (by omega), bn _ (by omega)]; exact h5
  · rw [eu_ne (by omega), k4 _ (by omega) (by omega), bn _ (by omega)]; exact hf i hi
theorem i8 {r : Nat} (hr : r + 5 < 340) (he : e r = some (.inr (8, n8))) : ∃ e', fX8_init (Te h e) (h + (r + 1)) (h + r) = some (Te h e') ∧ e' r = some (.inr (8, f8 h r)) ∧ e' (r + 1) = some (zL 12) ∧ e' (r + 2) = some (zL 12) ∧ (∃ f, e' (r + 3) = some (.inl (0, 5, .inl f)) ∧ ∀ j, j < 5 → f j = 1) ∧ (∃ f, e' (r + 4) = some (.inl (0, 5, .inl f)) ∧ ∀ j, j < 5 → f j = i32 (j : Int)) ∧ e' (r + 5) = some (zI 5) ∧ ∀ i, ¬ (r ≤ i ∧ i ≤ r + 5) → e' i = e i := by
  have hr0 : r < 340 := by omega
  unfold n8 at he
  unfold fX8_init
  rw [Te_wr hr0 he (by simp), sb, Te_wr hr0 eu_at (by simp), sb, xlet_eq, show h + (r + 1) + 0 = h + (r + 1) from rfl, Te_xu (show r + 1 < 340 by omega), Te_wr hr0 ((eu_ne (by omega)).trans eu_at) (by simp), sb, xlet_eq, show h + (r + 1) + 1 = h + (r + 2) from rfl, Te_xu (show r + 2 < 340 by omega), Te_wr hr0 ((eu_ne (by omega)).trans eu_at) (by simp), sb, xlet_eq, show h + (r + 1) + 2 = h + (r + 3) from rfl, Te_xu (show r + 3 < 340 by omega), Te_wr hr0 ((eu_ne (by omega)).trans eu_at) (by simp), sb, xlet_eq, show h + (r + 1) + 3 = h + (r + 4) from rfl, Te_xu (show r + 4 < 340 by omega), Te_wr hr0 ((eu_ne (by omega)).trans eu_at) (by simp), sb, Te_wr hr0 eu_at (by simp), sb, xlet_eq, show h + (r + 1) + 4 = h + (r + 5) from rfl, Te_xu (show r + 5 < 340 by omega), Te_wr hr0 ((eu_ne (by omega)).trans eu_at) (by simp), sb, Te_wr hr0 eu_at (by simp), sb, Te_o hr0 eu_at, sb]
  refine fin8 hr eu_at ?_ ?_ ?_ ?_ ?_ (fun i hi => ?_)
  · simp [eu, zL]
  · simp [eu, zL]
  · simp [eu, zI]
  · simp [eu, zI]
  · simp [eu, zI]
  · have a0 : i ≠ r := by omega
    have a1 : i ≠ r + 1 := by omega
    have a2 : i ≠ r + 2 := by omega
    have a3 : i ≠ r + 3 := by omega
    have a4 : i ≠ r + 4 := by omega
    have a5 : i ≠ r + 5 := by omega
    simp [eu, a0, a1, a2, a3, a4, a5]
end OB
