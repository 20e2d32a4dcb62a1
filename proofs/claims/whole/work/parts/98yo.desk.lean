/-! THE START: a desk, made -/
section DE
variable {h : Nat} {e : Nat → Option xE}
/-- rules as they are made -/
def R8 (h r : Nat) (e : Nat → Option xE) : Prop := e r = some (.inr (8, f8 h r)) ∧ e (r + 1) = some (zL 12) ∧ e (r + 2) = some (zL 12) ∧ (∃ f, e (r + 3) = some (.inl (0, 5, .inl f)) ∧ ∀ j, j < 5 → f j = 1) ∧ (∃ f, e (r + 4) = some (.inl (0, 5, .inl f)) ∧ ∀ j, j < 5 → f j = i32 (j : Int)) ∧ e (r + 5) = some (zI 5)
theorem R8.fr {r : Nat} {e' : Nat → Option xE} (hR : R8 h r e) (hf : ∀ i, r ≤ i → i ≤ r + 5 → e' i = e i) : R8 h r e' := by
  unfold R8 at *
  rw [hf r (by omega) (by omega), hf (r + 1) (by omega) (by omega), hf (r + 2) (by omega) (by omega), hf (r + 3) (by omega) (by omega), hf (r + 4) (by omega) (by omega), hf (r + 5) (by omega) (by omega)]
  exact hR
def n2 : List Value := [.null, .null, .null, .null, .null]
def f2 (h d : Nat) : List Value := [.ref (h + (d + 1)), .ref (h + (d + 7)), .ref (h + (d + 8)), .ref (h + (d + 9)), .ref (h + (d + 10))]
def R2 (h d : Nat) (e : Nat → Option xE) : Prop := e d = some (.inr (2, f2 h d)) ∧ R8 h (d + 1) e ∧ e (d + 7) = some (zL 6) ∧ e (d + 8) = some (zL 6) ∧ e (d + 9) = some (zI 6) ∧ e (d + 10) = some (zI 240)
theorem R2.fr {d : Nat} {e' : Nat → Option xE} (hR : R2 h d e) (hf : ∀ i, d ≤ i → i ≤ d + 10 → e' i = e i) : R2 h d e' := by
  obtain ⟨h1, h2, h3, h4, h5, h6⟩ := hR
  exact ⟨by rw [hf d (by omega) (by omega)]; exact h1, h2.fr (fun i a b => hf i (by omega) (by omega)), by rw [hf _ (by omega) (by omega)]; exact h3, by rw [hf _ (by omega) (by omega)]; exact h4, by rw [hf _ (by omega) (by omega)]; exact h5, by rw [hf _ (by omega) (by omega)]; exact h6⟩
theorem fin2 {E : Nat → Option xE} {d : Nat} (h0 : E d = some (.inr (2, f2 h d))) (hR : R8 h (d + 1) E) (h7 : E (d + 7) = some (zL 6)) (h8 : E (d + 8) = some (zL 6)) (h9 : E (d + 9) = some (zI 6)) (h10 : E (d + 10) = some (zI 240)) (hf : ∀ i, ¬ (d ≤ i ∧ i ≤ d + 10) → E i = e i) : ∃ e', some (Te h E) = some (Te h e') ∧ R2 h d e' ∧ ∀ i, ¬ (d ≤ i ∧ i ≤ d + 10) → e' i = e i := ⟨E, rfl, ⟨h0, hR, h7, h8, h9, h10⟩, hf⟩
theorem i2 {d : Nat} (hd : d + 10 < 340) (he : e d = some (.inr (2, n2))) : ∃ e', fX2_init (Te h e) (h + (d + 1)) (h + d) = some (Te h e') ∧ R2 h d e' ∧ ∀ i, ¬ (d ≤ i ∧ i ≤ d + 10) → e' i = e i := by
  have hd0 : d < 340 := by omega
  unfold n2 at he
  obtain ⟨e1, k1, k2, k3, k4, k5, k6, k7, k8⟩ := i8 (h := h) (e := eu e (d + 1) (.inr (8, n8))) (r := d + 1) (by omega) eu_at
  have hd1 : e1 d = some (.inr (2, [.null, .null, .null, .null, .null])) := by rw [k8 d (by omega), eu_ne (by omega)]; exact he
  unfold fX2_init
  rw [xlet_eq, show h + (d + 1) + 0 = h + (d + 1) from rfl, Te_xu (show d + 1 < 340 by omega), show h + (d + 1) + 1 = h + (d + 1 + 1) from rfl]
  rw [show (fX8_init (Te h (eu e (d + 1) (.inr (8, [.int 0, .int 0, .null, .null, .null, .null, .int 0, .null, .int 0])))) (h + (d + 1 + 1)) (h + (d + 1))) = _ from k1, sb, Te_wr hd0 hd1 (by simp), sb, xlet_eq, show h + (d + 1) + 6 = h + (d + 7) from rfl, Te_xu (show d + 7 < 340 by omega), Te_wr hd0 ((eu_ne (by omega)).trans eu_at) (by simp), sb, xlet_eq, show h + (d + 1) + 7 = h + (d + 8) from rfl, Te_xu (show d + 8 < 340 by omega), Te_wr hd0 ((eu_ne (by omega)).trans eu_at) (by simp), sb, xlet_eq, show h + (d + 1) + 8 = h + (d + 9) from rfl, Te_xu (show d + 9 < 340 by omega), Te_wr hd0 ((eu_ne (by omega)).trans eu_at) (by simp), sb, xlet_eq, show h + (d + 1) + 9 = h + (d + 10) from rfl, Te_xu (show d + 10 < 340 by omega), Te_wr hd0 ((eu_ne (by omega)).trans eu_at) (by simp), sb]
  refine fin2 eu_at ?_ ?_ ?_ ?_ ?_ (fun i hi => ?_)
  · have hR : R8 h (d + 1) e1 := ⟨k2, k3, k4, k5, k6, k7⟩
    refine hR.fr (fun i a b => ?_)
    have a0 : i ≠ d := by omega
    have a7 : i ≠ d + 7 := by omega
    have a8 : i ≠ d + 8 := by omega
    have a9 : i ≠ d + 9 := by omega
    have a10 : i ≠ d + 10 := by omega
    simp [eu, a0, a7, a8, a9, a10]
  · simp [eu, zL]
  · simp [eu, zL]
  · simp [eu, zI]
  · simp [eu, zI]
  · have a0 : i ≠ d := by omega
    have a1 : i ≠ d + 1 := by omega
    have a7 : i ≠ d + 7 := by omega
    have a8 : i ≠ d + 8 := by omega
    have a9 : i ≠ d + 9 := by omega
    have a10 : i ≠ d + 10 := by omega
    have := k8 i (by omega)
    rw [eu_ne a1] at this
    simp [eu, a0, a7, a8, a9, a10, this]
end DE
