/-! THE START: objects made field by field -/
/-- the object at k with its rows behind it; all below as it was -/
def OBJ (k c : Nat) (l : List Value) (A : List xE) (e0 e : Nat → Option xE) : Prop := e k = some (.inr (c, l)) ∧ (∀ t, t < A.length → e (k + 1 + t) = A[t]?) ∧ ∀ i, i < k → e i = e0 i
def OB (k c : Nat) (l : List Value) (A : List xE) (e : Nat → Option xE) : Prop := e k = some (.inr (c, l)) ∧ ∀ t, t < A.length → e (k + 1 + t) = A[t]?
section OJ
variable {h : Nat} {e e0 : Nat → Option xE} {k c : Nat} {l : List Value} {A : List xE}
theorem OB.fr {e' : Nat → Option xE} (o : OB k c l A e) (hf : ∀ i, k ≤ i → i < k + 1 + A.length → e' i = e i) : OB k c l A e' :=
  ⟨by rw [hf k (by omega) (by omega)]; exact o.1, fun t ht => by rw [hf _ (by omega) (by omega)]; exact o.2 t ht⟩
theorem OBJ.ob (o : OBJ k c l A e0 e) : OB k c l A e := ⟨o.1, o.2.1⟩
theorem OBJ.wr (o : OBJ k c l A e0 e) {j : Nat} {v : Value} {l' : List Value} {q : Nat} (hk : k < 340) (hj : j < l.length) (hl : l.set j v = l') (hq : q = h + k) : ∃ e', (∀ F : St → Option St, (wrF (Te h e) q c j v).bind F = F (Te h e')) ∧ OBJ k c l' A e0 e' ∧ ∀ i, i ≠ k → e' i = e i := by
  subst hl hq
  refine ⟨eu e k (.inr (c, l.set j v)), fun F => ?_, ⟨eu_at, fun t ht => ?_, fun i hi => ?_⟩, fun i hi => eu_ne hi⟩
  · rw [Te_wr hk o.1 hj, sb]
  · rw [eu_ne (by omega)]; exact o.2.1 t ht
  · rw [eu_ne (by omega)]; exact o.2.2 i hi
theorem OBJ.al (o : OBJ k c l A e0 e) {j : Nat} {v : Value} {x : xE} {l' : List Value} {A' : List xE} {q a : Nat} (hk : k + 1 + A.length < 340) (hj : j < l.length) (hl : l.set j v = l') (hA : A ++ [x] = A') (hq : q = h + k) (ha : a = h + (k + 1 + A.length)) : ∃ e', (∀ F : St → Option St, xlet (xu (Te h e) a x) (fun σ => (wrF σ q c j v).bind F) = F (Te h e')) ∧ OBJ k c l' A' e0 e' ∧ True := by
  subst hl hA hq ha
  refine ⟨eu (eu e (k + 1 + A.length) x) k (.inr (c, l.set j v)), fun F => ?_, ⟨eu_at, fun t ht => ?_, fun i hi => ?_⟩, trivial⟩
  · rw [xlet_eq, Te_xu hk, Te_wr (by omega) ((eu_ne (by omega)).trans o.1) hj, sb]
  · rw [eu_ne (by omega)]
    rw [List.length_append, List.length_singleton] at ht
    by_cases ct : t = A.length
    · subst ct
      rw [eu_at, List.getElem?_append_right (Nat.le_refl _), Nat.sub_self]; rfl
    · rw [eu_ne (by omega), List.getElem?_append_left (by omega)]
      exact o.2.1 t (by omega)
  · rw [eu_ne (by omega), eu_ne (by omega)]; exact o.2.2 i hi
set_option maxHeartbeats 4000000 in
theorem s9_253 {p : Nat} (he : e 253 = some (.inr (9, [.null, .null, .null, .int 0, .int 0]))) : ∃ e', fX9_init (Te h e) (h + 254) (h + 253) p = some (Te h e') ∧ OBJ 253 9 [.ref p, .ref (h + 254), .ref (h + 255), .int 0, .int 0] [.inl (1, 61, .inr (.inl (fun _ => 0))), .inl (0, 60, .inl (fun _ => 0))] e e' := by
  have o0 : OBJ 253 9 [.null, .null, .null, .int 0, .int 0] [] e e := ⟨he, fun t ht => absurd ht (Nat.not_lt_zero t), fun _ _ => rfl⟩
  unfold fX9_init
  simp only [Nat.add_assoc, Nat.reduceAdd]
  obtain ⟨e1, c1, o1, _⟩ := o0.al (h := h) (j := 1) (v := .ref (h + 254)) (x := .inl (1, 61, .inr (.inl (fun _ => 0)))) (l' := [.null, .ref (h + 254), .null, .int 0, .int 0]) (A' := [.inl (1, 61, .inr (.inl (fun _ => 0)))]) (q := h + 253) (a := h + 254) (Nat.le_of_ble_eq_true rfl) (Nat.le_of_ble_eq_true rfl) rfl rfl rfl rfl
  rw [c1]
  obtain ⟨e2, c2, o2, _⟩ := o1.al (h := h) (j := 2) (v := .ref (h + 255)) (x := .inl (0, 60, .inl (fun _ => 0))) (l' := [.null, .ref (h + 254), .ref (h + 255), .int 0, .int 0]) (A' := [.inl (1, 61, .inr (.inl (fun _ => 0))), .inl (0, 60, .inl (fun _ => 0))]) (q := h + 253) (a := h + 255) (Nat.le_of_ble_eq_true rfl) (Nat.le_of_ble_eq_true rfl) rfl rfl rfl rfl
  rw [c2]
  obtain ⟨e3, c3, o3, n3⟩ := o2.wr (h := h) (j := 3) (v := .int 0) (l' := [.null, .ref (h + 254), .ref (h + 255), .int 0, .int 0]) (q := h + 253) (by decide) (Nat.le_of_ble_eq_true rfl) rfl rfl
  rw [c3]
  obtain ⟨e4, c4, o4, n4⟩ := o3.wr (h := h) (j := 4) (v := .int 0) (l' := [.null, .ref (h + 254), .ref (h + 255), .int 0, .int 0]) (q := h + 253) (by decide) (Nat.le_of_ble_eq_true rfl) rfl rfl
  rw [c4]
  obtain ⟨e5, c5, o5, n5⟩ := o4.wr (h := h) (j := 0) (v := .ref p) (l' := [.ref p, .ref (h + 254), .ref (h + 255), .int 0, .int 0]) (q := h + 253) (by decide) (Nat.le_of_ble_eq_true rfl) rfl rfl
  rw [c5]
  exact ⟨_, rfl, o5⟩
set_option maxHeartbeats 4000000 in
theorem s5_256 {p r : Nat} (he : e 256 = some (.inr (5, [.null, .null, .null, .null, .null, .int 0, .int 0]))) : ∃ e', fX5_init (Te h e) (h + 257) (h + 256) p r = some (Te h e') ∧ OBJ 256 5 [.ref p, .ref r, .ref (h + 257), .ref (h + 258), .ref (h + 259), .int 0, .int 0] [.inl (1, 2304, .inr (.inl (fun _ => 0))), .inl (0, 2304, .inl (fun _ => 0)), .inl (2, 2304, .inl (fun _ => 0))] e e' := by
  have o0 : OBJ 256 5 [.null, .null, .null, .null, .null, .int 0, .int 0] [] e e := ⟨he, fun t ht => absurd ht (Nat.not_lt_zero t), fun _ _ => rfl⟩
  unfold fX5_init
  simp only [Nat.add_assoc, Nat.reduceAdd]
  obtain ⟨e1, c1, o1, _⟩ := o0.al (h := h) (j := 2) (v := .ref (h + 257)) (x := .inl (1, 2304, .inr (.inl (fun _ => 0)))) (l' := [.null, .null, .ref (h + 257), .null, .null, .int 0, .int 0]) (A' := [.inl (1, 2304, .inr (.inl (fun _ => 0)))]) (q := h + 256) (a := h + 257) (Nat.le_of_ble_eq_true rfl) (Nat.le_of_ble_eq_true rfl) rfl rfl rfl rfl
  rw [c1]
  obtain ⟨e2, c2, o2, _⟩ := o1.al (h := h) (j := 3) (v := .ref (h + 258)) (x := .inl (0, 2304, .inl (fun _ => 0))) (l' := [.null, .null, .ref (h + 257), .ref (h + 258), .null, .int 0, .int 0]) (A' := [.inl (1, 2304, .inr (.inl (fun _ => 0))), .inl (0, 2304, .inl (fun _ => 0))]) (q := h + 256) (a := h + 258) (Nat.le_of_ble_eq_true rfl) (Nat.le_of_ble_eq_true rfl) rfl rfl rfl rfl
  rw [c2]
  obtain ⟨e3, c3, o3, _⟩ := o2.al (h := h) (j := 4) (v := .ref (h + 259)) (x := .inl (2, 2304, .inl (fun _ => 0))) (l' := [.null, .null, .ref (h + 257), .ref (h + 258), .ref (h + 259), .int 0, .int 0]) (A' := [.inl (1, 2304, .inr (.inl (fun _ => 0))), .inl (0, 2304, .inl (fun _ => 0)), .inl (2, 2304, .inl (fun _ => 0))]) (q := h + 256) (a := h + 259) (Nat.le_of_ble_eq_true rfl) (Nat.le_of_ble_eq_true rfl) rfl rfl rfl rfl
  rw [c3]
  obtain ⟨e4, c4, o4, n4⟩ := o3.wr (h := h) (j := 5) (v := .int 0) (l' := [.null, .null, .ref (h + 257), .ref (h + 258), .ref (h + 259), .int 0, .int 0]) (q := h + 256) (by decide) (Nat.le_of_ble_eq_true rfl) rfl rfl
  rw [c4]
  obtain ⟨e5, c5, o5, n5⟩ := o4.wr (h := h) (j := 6) (v := .int 0) (l' := [.null, .null, .ref (h + 257), .ref (h + 258), .ref (h + 259), .int 0, .int 0]) (q := h + 256) (by decide) (Nat.le_of_ble_eq_true rfl) rfl rfl
  rw [c5]
  obtain ⟨e6, c6, o6, n6⟩ := o5.wr (h := h) (j := 0) (v := .ref p) (l' := [.ref p, .null, .ref (h + 257), .ref (h + 258), .ref (h + 259), .int 0, .int 0]) (q := h + 256) (by decide) (Nat.le_of_ble_eq_true rfl) rfl rfl
  rw [c6]
  obtain ⟨e7, c7, o7, n7⟩ := o6.wr (h := h) (j := 1) (v := .ref r) (l' := [.ref p, .ref r, .ref (h + 257), .ref (h + 258), .ref (h + 259), .int 0, .int 0]) (q := h + 256) (by decide) (Nat.le_of_ble_eq_true rfl) rfl rfl
  rw [c7]
  exact ⟨_, rfl, o7⟩
set_option maxHeartbeats 4000000 in
theorem s6_260 {p : Nat} {z : Int32} (hz : zok z = some z) (he : e 260 = some (.inr (6, [.null, .int 0, .null, .null, .int 0, .int 0, .int 0, .int 0, .null, .int 0]))) : ∃ e', fX6_init (Te h e) (h + 261) (h + 260) p z = some (Te h e') ∧ OBJ 260 6 [.ref p, .int z, .ref (h + 261), .ref (h + 262), .int 0, .int 0, .int (-1), .int (-1), .ref (h + 263), .int 0] [.inl (1, 200, .inr (.inl (fun _ => 0))), .inl (0, 200, .inl (fun _ => 0)), .inl (0, 512, .inl (fun _ => 0))] e e' := by
  have o0 : OBJ 260 6 [.null, .int 0, .null, .null, .int 0, .int 0, .int 0, .int 0, .null, .int 0] [] e e := ⟨he, fun t ht => absurd ht (Nat.not_lt_zero t), fun _ _ => rfl⟩
  unfold fX6_init
  simp only [Nat.add_assoc, Nat.reduceAdd]
  obtain ⟨e1, c1, o1, _⟩ := o0.al (h := h) (j := 2) (v := .ref (h + 261)) (x := .inl (1, 200, .inr (.inl (fun _ => 0)))) (l' := [.null, .int 0, .ref (h + 261), .null, .int 0, .int 0, .int 0, .int 0, .null, .int 0]) (A' := [.inl (1, 200, .inr (.inl (fun _ => 0)))]) (q := h + 260) (a := h + 261) (Nat.le_of_ble_eq_true rfl) (Nat.le_of_ble_eq_true rfl) rfl rfl rfl rfl
  rw [c1]
  obtain ⟨e2, c2, o2, _⟩ := o1.al (h := h) (j := 3) (v := .ref (h + 262)) (x := .inl (0, 200, .inl (fun _ => 0))) (l' := [.null, .int 0, .ref (h + 261), .ref (h + 262), .int 0, .int 0, .int 0, .int 0, .null, .int 0]) (A' := [.inl (1, 200, .inr (.inl (fun _ => 0))), .inl (0, 200, .inl (fun _ => 0))]) (q := h + 260) (a := h + 262) (Nat.le_of_ble_eq_true rfl) (Nat.le_of_ble_eq_true rfl) rfl rfl rfl rfl
  rw [c2]
  obtain ⟨e3, c3, o3, n3⟩ := o2.wr (h := h) (j := 4) (v := .int 0) (l' := [.null, .int 0, .ref (h + 261), .ref (h + 262), .int 0, .int 0, .int 0, .int 0, .null, .int 0]) (q := h + 260) (by decide) (Nat.le_of_ble_eq_true rfl) rfl rfl
  rw [c3]
  obtain ⟨e4, c4, o4, n4⟩ := o3.wr (h := h) (j := 5) (v := .int 0) (l' := [.null, .int 0, .ref (h + 261), .ref (h + 262), .int 0, .int 0, .int 0, .int 0, .null, .int 0]) (q := h + 260) (by decide) (Nat.le_of_ble_eq_true rfl) rfl rfl
  rw [c4]
  obtain ⟨e5, c5, o5, n5⟩ := o4.wr (h := h) (j := 6) (v := .int (-1)) (l' := [.null, .int 0, .ref (h + 261), .ref (h + 262), .int 0, .int 0, .int (-1), .int 0, .null, .int 0]) (q := h + 260) (by decide) (Nat.le_of_ble_eq_true rfl) rfl rfl
  rw [c5]
  obtain ⟨e6, c6, o6, n6⟩ := o5.wr (h := h) (j := 7) (v := .int (-1)) (l' := [.null, .int 0, .ref (h + 261), .ref (h + 262), .int 0, .int 0, .int (-1), .int (-1), .null, .int 0]) (q := h + 260) (by decide) (Nat.le_of_ble_eq_true rfl) rfl rfl
  rw [c6]
  obtain ⟨e7, c7, o7, _⟩ := o6.al (h := h) (j := 8) (v := .ref (h + 263)) (x := .inl (0, 512, .inl (fun _ => 0))) (l' := [.null, .int 0, .ref (h + 261), .ref (h + 262), .int 0, .int 0, .int (-1), .int (-1), .ref (h + 263), .int 0]) (A' := [.inl (1, 200, .inr (.inl (fun _ => 0))), .inl (0, 200, .inl (fun _ => 0)), .inl (0, 512, .inl (fun _ => 0))]) (q := h + 260) (a := h + 263) (Nat.le_of_ble_eq_true rfl) (Nat.le_of_ble_eq_true rfl) rfl rfl rfl rfl
  rw [c7]
  obtain ⟨e8, c8, o8, n8⟩ := o7.wr (h := h) (j := 9) (v := .int 0) (l' := [.null, .int 0, .ref (h + 261), .ref (h + 262), .int 0, .int 0, .int (-1), .int (-1), .ref (h + 263), .int 0]) (q := h + 260) (by decide) (Nat.le_of_ble_eq_true rfl) rfl rfl
  rw [c8]
  obtain ⟨e9, c9, o9, n9⟩ := o8.wr (h := h) (j := 0) (v := .ref p) (l' := [.ref p, .int 0, .ref (h + 261), .ref (h + 262), .int 0, .int 0, .int (-1), .int (-1), .ref (h + 263), .int 0]) (q := h + 260) (by decide) (Nat.le_of_ble_eq_true rfl) rfl rfl
  rw [c9]
  rw [hz, sb]
  obtain ⟨e10, c10, o10, n10⟩ := o9.wr (h := h) (j := 1) (v := .int z) (l' := [.ref p, .int z, .ref (h + 261), .ref (h + 262), .int 0, .int 0, .int (-1), .int (-1), .ref (h + 263), .int 0]) (q := h + 260) (by decide) (Nat.le_of_ble_eq_true rfl) rfl rfl
  rw [c10]
  exact ⟨_, rfl, o10⟩
set_option maxHeartbeats 4000000 in
theorem s6_264 {p : Nat} {z : Int32} (hz : zok z = some z) (he : e 264 = some (.inr (6, [.null, .int 0, .null, .null, .int 0, .int 0, .int 0, .int 0, .null, .int 0]))) : ∃ e', fX6_init (Te h e) (h + 265) (h + 264) p z = some (Te h e') ∧ OBJ 264 6 [.ref p, .int z, .ref (h + 265), .ref (h + 266), .int 0, .int 0, .int (-1), .int (-1), .ref (h + 267), .int 0] [.inl (1, 200, .inr (.inl (fun _ => 0))), .inl (0, 200, .inl (fun _ => 0)), .inl (0, 512, .inl (fun _ => 0))] e e' := by
  have o0 : OBJ 264 6 [.null, .int 0, .null, .null, .int 0, .int 0, .int 0, .int 0, .null, .int 0] [] e e := ⟨he, fun t ht => absurd ht (Nat.not_lt_zero t), fun _ _ => rfl⟩
  unfold fX6_init
  simp only [Nat.add_assoc, Nat.reduceAdd]
  obtain ⟨e1, c1, o1, _⟩ := o0.al (h := h) (j := 2) (v := .ref (h + 265)) (x := .inl (1, 200, .inr (.inl (fun _ => 0)))) (l' := [.null, .int 0, .ref (h + 265), .null, .int 0, .int 0, .int 0, .int 0, .null, .int 0]) (A' := [.inl (1, 200, .inr (.inl (fun _ => 0)))]) (q := h + 264) (a := h + 265) (Nat.le_of_ble_eq_true rfl) (Nat.le_of_ble_eq_true rfl) rfl rfl rfl rfl
  rw [c1]
  obtain ⟨e2, c2, o2, _⟩ := o1.al (h := h) (j := 3) (v := .ref (h + 266)) (x := .inl (0, 200, .inl (fun _ => 0))) (l' := [.null, .int 0, .ref (h + 265), .ref (h + 266), .int 0, .int 0, .int 0, .int 0, .null, .int 0]) (A' := [.inl (1, 200, .inr (.inl (fun _ => 0))), .inl (0, 200, .inl (fun _ => 0))]) (q := h + 264) (a := h + 266) (Nat.le_of_ble_eq_true rfl) (Nat.le_of_ble_eq_true rfl) rfl rfl rfl rfl
  rw [c2]
  obtain ⟨e3, c3, o3, n3⟩ := o2.wr (h := h) (j := 4) (v := .int 0) (l' := [.null, .int 0, .ref (h + 265), .ref (h + 266), .int 0, .int 0, .int 0, .int 0, .null, .int 0]) (q := h + 264) (by decide) (Nat.le_of_ble_eq_true rfl) rfl rfl
  rw [c3]
  obtain ⟨e4, c4, o4, n4⟩ := o3.wr (h := h) (j := 5) (v := .int 0) (l' := [.null, .int 0, .ref (h + 265), .ref (h + 266), .int 0, .int 0, .int 0, .int 0, .null, .int 0]) (q := h + 264) (by decide) (Nat.le_of_ble_eq_true rfl) rfl rfl
  rw [c4]
  obtain ⟨e5, c5, o5, n5⟩ := o4.wr (h := h) (j := 6) (v := .int (-1)) (l' := [.null, .int 0, .ref (h + 265), .ref (h + 266), .int 0, .int 0, .int (-1), .int 0, .null, .int 0]) (q := h + 264) (by decide) (Nat.le_of_ble_eq_true rfl) rfl rfl
  rw [c5]
  obtain ⟨e6, c6, o6, n6⟩ := o5.wr (h := h) (j := 7) (v := .int (-1)) (l' := [.null, .int 0, .ref (h + 265), .ref (h + 266), .int 0, .int 0, .int (-1), .int (-1), .null, .int 0]) (q := h + 264) (by decide) (Nat.le_of_ble_eq_true rfl) rfl rfl
  rw [c6]
  obtain ⟨e7, c7, o7, _⟩ := o6.al (h := h) (j := 8) (v := .ref (h + 267)) (x := .inl (0, 512, .inl (fun _ => 0))) (l' := [.null, .int 0, .ref (h + 265), .ref (h + 266), .int 0, .int 0, .int (-1), .int (-1), .ref (h + 267), .int 0]) (A' := [.inl (1, 200, .inr (.inl (fun _ => 0))), .inl (0, 200, .inl (fun _ => 0)), .inl (0, 512, .inl (fun _ => 0))]) (q := h + 264) (a := h + 267) (Nat.le_of_ble_eq_true rfl) (Nat.le_of_ble_eq_true rfl) rfl rfl rfl rfl
  rw [c7]
  obtain ⟨e8, c8, o8, n8⟩ := o7.wr (h := h) (j := 9) (v := .int 0) (l' := [.null, .int 0, .ref (h + 265), .ref (h + 266), .int 0, .int 0, .int (-1), .int (-1), .ref (h + 267), .int 0]) (q := h + 264) (by decide) (Nat.le_of_ble_eq_true rfl) rfl rfl
  rw [c8]
  obtain ⟨e9, c9, o9, n9⟩ := o8.wr (h := h) (j := 0) (v := .ref p) (l' := [.ref p, .int 0, .ref (h + 265), .ref (h + 266), .int 0, .int 0, .int (-1), .int (-1), .ref (h + 267), .int 0]) (q := h + 264) (by decide) (Nat.le_of_ble_eq_true rfl) rfl rfl
  rw [c9]
  rw [hz, sb]
  obtain ⟨e10, c10, o10, n10⟩ := o9.wr (h := h) (j := 1) (v := .int z) (l' := [.ref p, .int z, .ref (h + 265), .ref (h + 266), .int 0, .int 0, .int (-1), .int (-1), .ref (h + 267), .int 0]) (q := h + 264) (by decide) (Nat.le_of_ble_eq_true rfl) rfl rfl
  rw [c10]
  exact ⟨_, rfl, o10⟩
set_option maxHeartbeats 4000000 in
theorem s6_268 {p : Nat} {z : Int32} (hz : zok z = some z) (he : e 268 = some (.inr (6, [.null, .int 0, .null, .null, .int 0, .int 0, .int 0, .int 0, .null, .int 0]))) : ∃ e', fX6_init (Te h e) (h + 269) (h + 268) p z = some (Te h e') ∧ OBJ 268 6 [.ref p, .int z, .ref (h + 269), .ref (h + 270), .int 0, .int 0, .int (-1), .int (-1), .ref (h + 271), .int 0] [.inl (1, 200, .inr (.inl (fun _ => 0))), .inl (0, 200, .inl (fun _ => 0)), .inl (0, 512, .inl (fun _ => 0))] e e' := by
  have o0 : OBJ 268 6 [.null, .int 0, .null, .null, .int 0, .int 0, .int 0, .int 0, .null, .int 0] [] e e := ⟨he, fun t ht => absurd ht (Nat.not_lt_zero t), fun _ _ => rfl⟩
  unfold fX6_init
  simp only [Nat.add_assoc, Nat.reduceAdd]
  obtain ⟨e1, c1, o1, _⟩ := o0.al (h := h) (j := 2) (v := .ref (h + 269)) (x := .inl (1, 200, .inr (.inl (fun _ => 0)))) (l' := [.null, .int 0, .ref (h + 269), .null, .int 0, .int 0, .int 0, .int 0, .null, .int 0]) (A' := [.inl (1, 200, .inr (.inl (fun _ => 0)))]) (q := h + 268) (a := h + 269) (Nat.le_of_ble_eq_true rfl) (Nat.le_of_ble_eq_true rfl) rfl rfl rfl rfl
  rw [c1]
  obtain ⟨e2, c2, o2, _⟩ := o1.al (h := h) (j := 3) (v := .ref (h + 270)) (x := .inl (0, 200, .inl (fun _ => 0))) (l' := [.null, .int 0, .ref (h + 269), .ref (h + 270), .int 0, .int 0, .int 0, .int 0, .null, .int 0]) (A' := [.inl (1, 200, .inr (.inl (fun _ => 0))), .inl (0, 200, .inl (fun _ => 0))]) (q := h + 268) (a := h + 270) (Nat.le_of_ble_eq_true rfl) (Nat.le_of_ble_eq_true rfl) rfl rfl rfl rfl
  rw [c2]
  obtain ⟨e3, c3, o3, n3⟩ := o2.wr (h := h) (j := 4) (v := .int 0) (l' := [.null, .int 0, .ref (h + 269), .ref (h + 270), .int 0, .int 0, .int 0, .int 0, .null, .int 0]) (q := h + 268) (by decide) (Nat.le_of_ble_eq_true rfl) rfl rfl
  rw [c3]
  obtain ⟨e4, c4, o4, n4⟩ := o3.wr (h := h) (j := 5) (v := .int 0) (l' := [.null, .int 0, .ref (h + 269), .ref (h + 270), .int 0, .int 0, .int 0, .int 0, .null, .int 0]) (q := h + 268) (by decide) (Nat.le_of_ble_eq_true rfl) rfl rfl
  rw [c4]
  obtain ⟨e5, c5, o5, n5⟩ := o4.wr (h := h) (j := 6) (v := .int (-1)) (l' := [.null, .int 0, .ref (h + 269), .ref (h + 270), .int 0, .int 0, .int (-1), .int 0, .null, .int 0]) (q := h + 268) (by decide) (Nat.le_of_ble_eq_true rfl) rfl rfl
  rw [c5]
  obtain ⟨e6, c6, o6, n6⟩ := o5.wr (h := h) (j := 7) (v := .int (-1)) (l' := [.null, .int 0, .ref (h + 269), .ref (h + 270), .int 0, .int 0, .int (-1), .int (-1), .null, .int 0]) (q := h + 268) (by decide) (Nat.le_of_ble_eq_true rfl) rfl rfl
  rw [c6]
  obtain ⟨e7, c7, o7, _⟩ := o6.al (h := h) (j := 8) (v := .ref (h + 271)) (x := .inl (0, 512, .inl (fun _ => 0))) (l' := [.null, .int 0, .ref (h + 269), .ref (h + 270), .int 0, .int 0, .int (-1), .int (-1), .ref (h + 271), .int 0]) (A' := [.inl (1, 200, .inr (.inl (fun _ => 0))), .inl (0, 200, .inl (fun _ => 0)), .inl (0, 512, .inl (fun _ => 0))]) (q := h + 268) (a := h + 271) (Nat.le_of_ble_eq_true rfl) (Nat.le_of_ble_eq_true rfl) rfl rfl rfl rfl
  rw [c7]
  obtain ⟨e8, c8, o8, n8⟩ := o7.wr (h := h) (j := 9) (v := .int 0) (l' := [.null, .int 0, .ref (h + 269), .ref (h + 270), .int 0, .int 0, .int (-1), .int (-1), .ref (h + 271), .int 0]) (q := h + 268) (by decide) (Nat.le_of_ble_eq_true rfl) rfl rfl
  rw [c8]
  obtain ⟨e9, c9, o9, n9⟩ := o8.wr (h := h) (j := 0) (v := .ref p) (l' := [.ref p, .int 0, .ref (h + 269), .ref (h + 270), .int 0, .int 0, .int (-1), .int (-1), .ref (h + 271), .int 0]) (q := h + 268) (by decide) (Nat.le_of_ble_eq_true rfl) rfl rfl
  rw [c9]
  rw [hz, sb]
  obtain ⟨e10, c10, o10, n10⟩ := o9.wr (h := h) (j := 1) (v := .int z) (l' := [.ref p, .int z, .ref (h + 269), .ref (h + 270), .int 0, .int 0, .int (-1), .int (-1), .ref (h + 271), .int 0]) (q := h + 268) (by decide) (Nat.le_of_ble_eq_true rfl) rfl rfl
  rw [c10]
  exact ⟨_, rfl, o10⟩
set_option maxHeartbeats 4000000 in
theorem s1_272 {p : Nat} (he : e 272 = some (.inr (1, [.null, .null, .int 0, .null, .null, .null]))) : ∃ e', fX1_init (Te h e) (h + 273) (h + 272) p = some (Te h e') ∧ OBJ 272 1 [.ref p, .ref (h + 273), .int 0, .ref (h + 274), .ref (h + 275), .ref (h + 276)] [.inl (1, 85, .inr (.inl (fun _ => 0))), .inl (0, 425, .inl (fun _ => 0)), .inl (0, 85, .inl (fun _ => 0)), .inl (0, 85, .inl (fun _ => 0))] e e' := by
  have o0 : OBJ 272 1 [.null, .null, .int 0, .null, .null, .null] [] e e := ⟨he, fun t ht => absurd ht (Nat.not_lt_zero t), fun _ _ => rfl⟩
  unfold fX1_init
  simp only [Nat.add_assoc, Nat.reduceAdd]
  obtain ⟨e1, c1, o1, _⟩ := o0.al (h := h) (j := 1) (v := .ref (h + 273)) (x := .inl (1, 85, .inr (.inl (fun _ => 0)))) (l' := [.null, .ref (h + 273), .int 0, .null, .null, .null]) (A' := [.inl (1, 85, .inr (.inl (fun _ => 0)))]) (q := h + 272) (a := h + 273) (Nat.le_of_ble_eq_true rfl) (Nat.le_of_ble_eq_true rfl) rfl rfl rfl rfl
  rw [c1]
  obtain ⟨e2, c2, o2, n2⟩ := o1.wr (h := h) (j := 2) (v := .int 0) (l' := [.null, .ref (h + 273), .int 0, .null, .null, .null]) (q := h + 272) (by decide) (Nat.le_of_ble_eq_true rfl) rfl rfl
  rw [c2]
  obtain ⟨e3, c3, o3, _⟩ := o2.al (h := h) (j := 3) (v := .ref (h + 274)) (x := .inl (0, 425, .inl (fun _ => 0))) (l' := [.null, .ref (h + 273), .int 0, .ref (h + 274), .null, .null]) (A' := [.inl (1, 85, .inr (.inl (fun _ => 0))), .inl (0, 425, .inl (fun _ => 0))]) (q := h + 272) (a := h + 274) (Nat.le_of_ble_eq_true rfl) (Nat.le_of_ble_eq_true rfl) rfl rfl rfl rfl
  rw [c3]
  obtain ⟨e4, c4, o4, _⟩ := o3.al (h := h) (j := 4) (v := .ref (h + 275)) (x := .inl (0, 85, .inl (fun _ => 0))) (l' := [.null, .ref (h + 273), .int 0, .ref (h + 274), .ref (h + 275), .null]) (A' := [.inl (1, 85, .inr (.inl (fun _ => 0))), .inl (0, 425, .inl (fun _ => 0)), .inl (0, 85, .inl (fun _ => 0))]) (q := h + 272) (a := h + 275) (Nat.le_of_ble_eq_true rfl) (Nat.le_of_ble_eq_true rfl) rfl rfl rfl rfl
  rw [c4]
  obtain ⟨e5, c5, o5, _⟩ := o4.al (h := h) (j := 5) (v := .ref (h + 276)) (x := .inl (0, 85, .inl (fun _ => 0))) (l' := [.null, .ref (h + 273), .int 0, .ref (h + 274), .ref (h + 275), .ref (h + 276)]) (A' := [.inl (1, 85, .inr (.inl (fun _ => 0))), .inl (0, 425, .inl (fun _ => 0)), .inl (0, 85, .inl (fun _ => 0)), .inl (0, 85, .inl (fun _ => 0))]) (q := h + 272) (a := h + 276) (Nat.le_of_ble_eq_true rfl) (Nat.le_of_ble_eq_true rfl) rfl rfl rfl rfl
  rw [c5]
  obtain ⟨e6, c6, o6, n6⟩ := o5.wr (h := h) (j := 0) (v := .ref p) (l' := [.ref p, .ref (h + 273), .int 0, .ref (h + 274), .ref (h + 275), .ref (h + 276)]) (q := h + 272) (by decide) (Nat.le_of_ble_eq_true rfl) rfl rfl
  rw [c6]
  exact ⟨_, rfl, o6⟩
set_option maxHeartbeats 4000000 in
theorem s4_277 (he : e 277 = some (.inr (4, [.null, .int 0, .long 0, .long 0]))) : ∃ e', fX4_init (Te h e) (h + 278) (h + 277) = some (Te h e') ∧ OBJ 277 4 [.ref (h + 278), .int 0, .long 0, .long 0] [.inl (0, 5, .inl (fun _ => 0))] e e' := by
  have o0 : OBJ 277 4 [.null, .int 0, .long 0, .long 0] [] e e := ⟨he, fun t ht => absurd ht (Nat.not_lt_zero t), fun _ _ => rfl⟩
  unfold fX4_init
  simp only [Nat.add_assoc, Nat.reduceAdd]
  obtain ⟨e1, c1, o1, _⟩ := o0.al (h := h) (j := 0) (v := .ref (h + 278)) (x := .inl (0, 5, .inl (fun _ => 0))) (l' := [.ref (h + 278), .int 0, .long 0, .long 0]) (A' := [.inl (0, 5, .inl (fun _ => 0))]) (q := h + 277) (a := h + 278) (Nat.le_of_ble_eq_true rfl) (Nat.le_of_ble_eq_true rfl) rfl rfl rfl rfl
  rw [c1]
  obtain ⟨e2, c2, o2, n2⟩ := o1.wr (h := h) (j := 1) (v := .int 0) (l' := [.ref (h + 278), .int 0, .long 0, .long 0]) (q := h + 277) (by decide) (Nat.le_of_ble_eq_true rfl) rfl rfl
  rw [c2]
  obtain ⟨e3, c3, o3, n3⟩ := o2.wr (h := h) (j := 2) (v := .long 0) (l' := [.ref (h + 278), .int 0, .long 0, .long 0]) (q := h + 277) (by decide) (Nat.le_of_ble_eq_true rfl) rfl rfl
  rw [c3]
  obtain ⟨e4, c4, o4, n4⟩ := o3.wr (h := h) (j := 3) (v := .long 0) (l' := [.ref (h + 278), .int 0, .long 0, .long 0]) (q := h + 277) (by decide) (Nat.le_of_ble_eq_true rfl) rfl rfl
  rw [c4]
  exact ⟨_, rfl, o4⟩
set_option maxHeartbeats 4000000 in
theorem s4_279 (he : e 279 = some (.inr (4, [.null, .int 0, .long 0, .long 0]))) : ∃ e', fX4_init (Te h e) (h + 280) (h + 279) = some (Te h e') ∧ OBJ 279 4 [.ref (h + 280), .int 0, .long 0, .long 0] [.inl (0, 5, .inl (fun _ => 0))] e e' := by
  have o0 : OBJ 279 4 [.null, .int 0, .long 0, .long 0] [] e e := ⟨he, fun t ht => absurd ht (Nat.not_lt_zero t), fun _ _ => rfl⟩
  unfold fX4_init
  simp only [Nat.add_assoc, Nat.reduceAdd]
  obtain ⟨e1, c1, o1, _⟩ := o0.al (h := h) (j := 0) (v := .ref (h + 280)) (x := .inl (0, 5, .inl (fun _ => 0))) (l' := [.ref (h + 280), .int 0, .long 0, .long 0]) (A' := [.inl (0, 5, .inl (fun _ => 0))]) (q := h + 279) (a := h + 280) (Nat.le_of_ble_eq_true rfl) (Nat.le_of_ble_eq_true rfl) rfl rfl rfl rfl
  rw [c1]
  obtain ⟨e2, c2, o2, n2⟩ := o1.wr (h := h) (j := 1) (v := .int 0) (l' := [.ref (h + 280), .int 0, .long 0, .long 0]) (q := h + 279) (by decide) (Nat.le_of_ble_eq_true rfl) rfl rfl
  rw [c2]
  obtain ⟨e3, c3, o3, n3⟩ := o2.wr (h := h) (j := 2) (v := .long 0) (l' := [.ref (h + 280), .int 0, .long 0, .long 0]) (q := h + 279) (by decide) (Nat.le_of_ble_eq_true rfl) rfl rfl
  rw [c3]
  obtain ⟨e4, c4, o4, n4⟩ := o3.wr (h := h) (j := 3) (v := .long 0) (l' := [.ref (h + 280), .int 0, .long 0, .long 0]) (q := h + 279) (by decide) (Nat.le_of_ble_eq_true rfl) rfl rfl
  rw [c4]
  exact ⟨_, rfl, o4⟩
set_option maxHeartbeats 4000000 in
theorem s3_281 {p : Nat} (he : e 281 = some (.inr (3, [.null, .int 0, .int 0, .null, .int 0, .int 0, .null, .null, .null, .null, .null, .null, .null, .null, .null, .null, .null]))) : ∃ e', fX3_init (Te h e) (h + 282) (h + 281) p = some (Te h e') ∧ OBJ 281 3 [.ref p, .int 0, .int 0, .ref (h + 282), .int 0, .int 0, .ref (h + 283), .ref (h + 284), .ref (h + 285), .ref (h + 286), .ref (h + 287), .ref (h + 288), .ref (h + 289), .ref (h + 290), .ref (h + 291), .ref (h + 292), .ref (h + 293)] [.inl (0, 656, .inl (fun _ => 0)), .inl (0, 656, .inl (fun _ => 0)), .inl (0, 656, .inl (fun _ => 0)), .inl (0, 640, .inl (fun _ => 0)), .inl (0, 40, .inl (fun _ => 0)), .inl (0, 40, .inl (fun _ => 0)), .inl (0, 40, .inl (fun _ => 0)), .inl (0, 40, .inl (fun _ => 0)), .inl (0, 40, .inl (fun _ => 0)), .inl (0, 40, .inl (fun _ => 0)), .inl (0, 40, .inl (fun _ => 0)), .inl (0, 40, .inl (fun _ => 0))] e e' := by
  have o0 : OBJ 281 3 [.null, .int 0, .int 0, .null, .int 0, .int 0, .null, .null, .null, .null, .null, .null, .null, .null, .null, .null, .null] [] e e := ⟨he, fun t ht => absurd ht (Nat.not_lt_zero t), fun _ _ => rfl⟩
  unfold fX3_init
  simp only [Nat.add_assoc, Nat.reduceAdd]
  obtain ⟨e1, c1, o1, n1⟩ := o0.wr (h := h) (j := 1) (v := .int 0) (l' := [.null, .int 0, .int 0, .null, .int 0, .int 0, .null, .null, .null, .null, .null, .null, .null, .null, .null, .null, .null]) (q := h + 281) (by decide) (Nat.le_of_ble_eq_true rfl) rfl rfl
  rw [c1]
  obtain ⟨e2, c2, o2, n2⟩ := o1.wr (h := h) (j := 2) (v := .int 0) (l' := [.null, .int 0, .int 0, .null, .int 0, .int 0, .null, .null, .null, .null, .null, .null, .null, .null, .null, .null, .null]) (q := h + 281) (by decide) (Nat.le_of_ble_eq_true rfl) rfl rfl
  rw [c2]
  obtain ⟨e3, c3, o3, _⟩ := o2.al (h := h) (j := 3) (v := .ref (h + 282)) (x := .inl (0, 656, .inl (fun _ => 0))) (l' := [.null, .int 0, .int 0, .ref (h + 282), .int 0, .int 0, .null, .null, .null, .null, .null, .null, .null, .null, .null, .null, .null]) (A' := [.inl (0, 656, .inl (fun _ => 0))]) (q := h + 281) (a := h + 282) (Nat.le_of_ble_eq_true rfl) (Nat.le_of_ble_eq_true rfl) rfl rfl rfl rfl
  rw [c3]
  obtain ⟨e4, c4, o4, n4⟩ := o3.wr (h := h) (j := 4) (v := .int 0) (l' := [.null, .int 0, .int 0, .ref (h + 282), .int 0, .int 0, .null, .null, .null, .null, .null, .null, .null, .null, .null, .null, .null]) (q := h + 281) (by decide) (Nat.le_of_ble_eq_true rfl) rfl rfl
  rw [c4]
  obtain ⟨e5, c5, o5, n5⟩ := o4.wr (h := h) (j := 5) (v := .int 0) (l' := [.null, .int 0, .int 0, .ref (h + 282), .int 0, .int 0, .null, .null, .null, .null, .null, .null, .null, .null, .null, .null, .null]) (q := h + 281) (by decide) (Nat.le_of_ble_eq_true rfl) rfl rfl
  rw [c5]
  obtain ⟨e6, c6, o6, _⟩ := o5.al (h := h) (j := 6) (v := .ref (h + 283)) (x := .inl (0, 656, .inl (fun _ => 0))) (l' := [.null, .int 0, .int 0, .ref (h + 282), .int 0, .int 0, .ref (h + 283), .null, .null, .null, .null, .null, .null, .null, .null, .null, .null]) (A' := [.inl (0, 656, .inl (fun _ => 0)), .inl (0, 656, .inl (fun _ => 0))]) (q := h + 281) (a := h + 283) (Nat.le_of_ble_eq_true rfl) (Nat.le_of_ble_eq_true rfl) rfl rfl rfl rfl
  rw [c6]
  obtain ⟨e7, c7, o7, _⟩ := o6.al (h := h) (j := 7) (v := .ref (h + 284)) (x := .inl (0, 656, .inl (fun _ => 0))) (l' := [.null, .int 0, .int 0, .ref (h + 282), .int 0, .int 0, .ref (h + 283), .ref (h + 284), .null, .null, .null, .null, .null, .null, .null, .null, .null]) (A' := [.inl (0, 656, .inl (fun _ => 0)), .inl (0, 656, .inl (fun _ => 0)), .inl (0, 656, .inl (fun _ => 0))]) (q := h + 281) (a := h + 284) (Nat.le_of_ble_eq_true rfl) (Nat.le_of_ble_eq_true rfl) rfl rfl rfl rfl
  rw [c7]
  obtain ⟨e8, c8, o8, _⟩ := o7.al (h := h) (j := 8) (v := .ref (h + 285)) (x := .inl (0, 640, .inl (fun _ => 0))) (l' := [.null, .int 0, .int 0, .ref (h + 282), .int 0, .int 0, .ref (h + 283), .ref (h + 284), .ref (h + 285), .null, .null, .null, .null, .null, .null, .null, .null]) (A' := [.inl (0, 656, .inl (fun _ => 0)), .inl (0, 656, .inl (fun _ => 0)), .inl (0, 656, .inl (fun _ => 0)), .inl (0, 640, .inl (fun _ => 0))]) (q := h + 281) (a := h + 285) (Nat.le_of_ble_eq_true rfl) (Nat.le_of_ble_eq_true rfl) rfl rfl rfl rfl
  rw [c8]
  obtain ⟨e9, c9, o9, _⟩ := o8.al (h := h) (j := 9) (v := .ref (h + 286)) (x := .inl (0, 40, .inl (fun _ => 0))) (l' := [.null, .int 0, .int 0, .ref (h + 282), .int 0, .int 0, .ref (h + 283), .ref (h + 284), .ref (h + 285), .ref (h + 286), .null, .null, .null, .null, .null, .null, .null]) (A' := [.inl (0, 656, .inl (fun _ => 0)), .inl (0, 656, .inl (fun _ => 0)), .inl (0, 656, .inl (fun _ => 0)), .inl (0, 640, .inl (fun _ => 0)), .inl (0, 40, .inl (fun _ => 0))]) (q := h + 281) (a := h + 286) (Nat.le_of_ble_eq_true rfl) (Nat.le_of_ble_eq_true rfl) rfl rfl rfl rfl
  rw [c9]
  obtain ⟨e10, c10, o10, _⟩ := o9.al (h := h) (j := 10) (v := .ref (h + 287)) (x := .inl (0, 40, .inl (fun _ => 0))) (l' := [.null, .int 0, .int 0, .ref (h + 282), .int 0, .int 0, .ref (h + 283), .ref (h + 284), .ref (h + 285), .ref (h + 286), .ref (h + 287), .null, .null, .null, .null, .null, .null]) (A' := [.inl (0, 656, .inl (fun _ => 0)), .inl (0, 656, .inl (fun _ => 0)), .inl (0, 656, .inl (fun _ => 0)), .inl (0, 640, .inl (fun _ => 0)), .inl (0, 40, .inl (fun _ => 0)), .inl (0, 40, .inl (fun _ => 0))]) (q := h + 281) (a := h + 287) (Nat.le_of_ble_eq_true rfl) (Nat.le_of_ble_eq_true rfl) rfl rfl rfl rfl
  rw [c10]
  obtain ⟨e11, c11, o11, _⟩ := o10.al (h := h) (j := 11) (v := .ref (h + 288)) (x := .inl (0, 40, .inl (fun _ => 0))) (l' := [.null, .int 0, .int 0, .ref (h + 282), .int 0, .int 0, .ref (h + 283), .ref (h + 284), .ref (h + 285), .ref (h + 286), .ref (h + 287), .ref (h + 288), .null, .null, .null, .null, .null]) (A' := [.inl (0, 656, .inl (fun _ => 0)), .inl (0, 656, .inl (fun _ => 0)), .inl (0, 656, .inl (fun _ => 0)), .inl (0, 640, .inl (fun _ => 0)), .inl (0, 40, .inl (fun _ => 0)), .inl (0, 40, .inl (fun _ => 0)), .inl (0, 40, .inl (fun _ => 0))]) (q := h + 281) (a := h + 288) (Nat.le_of_ble_eq_true rfl) (Nat.le_of_ble_eq_true rfl) rfl rfl rfl rfl
  rw [c11]
  obtain ⟨e12, c12, o12, _⟩ := o11.al (h := h) (j := 12) (v := .ref (h + 289)) (x := .inl (0, 40, .inl (fun _ => 0))) (l' := [.null, .int 0, .int 0, .ref (h + 282), .int 0, .int 0, .ref (h + 283), .ref (h + 284), .ref (h + 285), .ref (h + 286), .ref (h + 287), .ref (h + 288), .ref (h + 289), .null, .null, .null, .null]) (A' := [.inl (0, 656, .inl (fun _ => 0)), .inl (0, 656, .inl (fun _ => 0)), .inl (0, 656, .inl (fun _ => 0)), .inl (0, 640, .inl (fun _ => 0)), .inl (0, 40, .inl (fun _ => 0)), .inl (0, 40, .inl (fun _ => 0)), .inl (0, 40, .inl (fun _ => 0)), .inl (0, 40, .inl (fun _ => 0))]) (q := h + 281) (a := h + 289) (Nat.le_of_ble_eq_true rfl) (Nat.le_of_ble_eq_true rfl) rfl rfl rfl rfl
  rw [c12]
  obtain ⟨e13, c13, o13, _⟩ := o12.al (h := h) (j := 13) (v := .ref (h + 290)) (x := .inl (0, 40, .inl (fun _ => 0))) (l' := [.null, .int 0, .int 0, .ref (h + 282), .int 0, .int 0, .ref (h + 283), .ref (h + 284), .ref (h + 285), .ref (h + 286), .ref (h + 287), .ref (h + 288), .ref (h + 289), .ref (h + 290), .null, .null, .null]) (A' := [.inl (0, 656, .inl (fun _ => 0)), .inl (0, 656, .inl (fun _ => 0)), .inl (0, 656, .inl (fun _ => 0)), .inl (0, 640, .inl (fun _ => 0)), .inl (0, 40, .inl (fun _ => 0)), .inl (0, 40, .inl (fun _ => 0)), .inl (0, 40, .inl (fun _ => 0)), .inl (0, 40, .inl (fun _ => 0)), .inl (0, 40, .inl (fun _ => 0))]) (q := h + 281) (a := h + 290) (Nat.le_of_ble_eq_true rfl) (Nat.le_of_ble_eq_true rfl) rfl rfl rfl rfl
  rw [c13]
  obtain ⟨e14, c14, o14, _⟩ := o13.al (h := h) (j := 14) (v := .ref (h + 291)) (x := .inl (0, 40, .inl (fun _ => 0))) (l' := [.null, .int 0, .int 0, .ref (h + 282), .int 0, .int 0, .ref (h + 283), .ref (h + 284), .ref (h + 285), .ref (h + 286), .ref (h + 287), .ref (h + 288), .ref (h + 289), .ref (h + 290), .ref (h + 291), .null, .null]) (A' := [.inl (0, 656, .inl (fun _ => 0)), .inl (0, 656, .inl (fun _ => 0)), .inl (0, 656, .inl (fun _ => 0)), .inl (0, 640, .inl (fun _ => 0)), .inl (0, 40, .inl (fun _ => 0)), .inl (0, 40, .inl (fun _ => 0)), .inl (0, 40, .inl (fun _ => 0)), .inl (0, 40, .inl (fun _ => 0)), .inl (0, 40, .inl (fun _ => 0)), .inl (0, 40, .inl (fun _ => 0))]) (q := h + 281) (a := h + 291) (Nat.le_of_ble_eq_true rfl) (Nat.le_of_ble_eq_true rfl) rfl rfl rfl rfl
  rw [c14]
  obtain ⟨e15, c15, o15, _⟩ := o14.al (h := h) (j := 15) (v := .ref (h + 292)) (x := .inl (0, 40, .inl (fun _ => 0))) (l' := [.null, .int 0, .int 0, .ref (h + 282), .int 0, .int 0, .ref (h + 283), .ref (h + 284), .ref (h + 285), .ref (h + 286), .ref (h + 287), .ref (h + 288), .ref (h + 289), .ref (h + 290), .ref (h + 291), .ref (h + 292), .null]) (A' := [.inl (0, 656, .inl (fun _ => 0)), .inl (0, 656, .inl (fun _ => 0)), .inl (0, 656, .inl (fun _ => 0)), .inl (0, 640, .inl (fun _ => 0)), .inl (0, 40, .inl (fun _ => 0)), .inl (0, 40, .inl (fun _ => 0)), .inl (0, 40, .inl (fun _ => 0)), .inl (0, 40, .inl (fun _ => 0)), .inl (0, 40, .inl (fun _ => 0)), .inl (0, 40, .inl (fun _ => 0)), .inl (0, 40, .inl (fun _ => 0))]) (q := h + 281) (a := h + 292) (Nat.le_of_ble_eq_true rfl) (Nat.le_of_ble_eq_true rfl) rfl rfl rfl rfl
  rw [c15]
  obtain ⟨e16, c16, o16, _⟩ := o15.al (h := h) (j := 16) (v := .ref (h + 293)) (x := .inl (0, 40, .inl (fun _ => 0))) (l' := [.null, .int 0, .int 0, .ref (h + 282), .int 0, .int 0, .ref (h + 283), .ref (h + 284), .ref (h + 285), .ref (h + 286), .ref (h + 287), .ref (h + 288), .ref (h + 289), .ref (h + 290), .ref (h + 291), .ref (h + 292), .ref (h + 293)]) (A' := [.inl (0, 656, .inl (fun _ => 0)), .inl (0, 656, .inl (fun _ => 0)), .inl (0, 656, .inl (fun _ => 0)), .inl (0, 640, .inl (fun _ => 0)), .inl (0, 40, .inl (fun _ => 0)), .inl (0, 40, .inl (fun _ => 0)), .inl (0, 40, .inl (fun _ => 0)), .inl (0, 40, .inl (fun _ => 0)), .inl (0, 40, .inl (fun _ => 0)), .inl (0, 40, .inl (fun _ => 0)), .inl (0, 40, .inl (fun _ => 0)), .inl (0, 40, .inl (fun _ => 0))]) (q := h + 281) (a := h + 293) (Nat.le_of_ble_eq_true rfl) (Nat.le_of_ble_eq_true rfl) rfl rfl rfl rfl
  rw [c16]
  obtain ⟨e17, c17, o17, n17⟩ := o16.wr (h := h) (j := 0) (v := .ref p) (l' := [.ref p, .int 0, .int 0, .ref (h + 282), .int 0, .int 0, .ref (h + 283), .ref (h + 284), .ref (h + 285), .ref (h + 286), .ref (h + 287), .ref (h + 288), .ref (h + 289), .ref (h + 290), .ref (h + 291), .ref (h + 292), .ref (h + 293)]) (q := h + 281) (by decide) (Nat.le_of_ble_eq_true rfl) rfl rfl
  rw [c17]
  exact ⟨_, rfl, o17⟩
set_option maxHeartbeats 4000000 in
theorem s3_294 {p : Nat} (he : e 294 = some (.inr (3, [.null, .int 0, .int 0, .null, .int 0, .int 0, .null, .null, .null, .null, .null, .null, .null, .null, .null, .null, .null]))) : ∃ e', fX3_init (Te h e) (h + 295) (h + 294) p = some (Te h e') ∧ OBJ 294 3 [.ref p, .int 0, .int 0, .ref (h + 295), .int 0, .int 0, .ref (h + 296), .ref (h + 297), .ref (h + 298), .ref (h + 299), .ref (h + 300), .ref (h + 301), .ref (h + 302), .ref (h + 303), .ref (h + 304), .ref (h + 305), .ref (h + 306)] [.inl (0, 656, .inl (fun _ => 0)), .inl (0, 656, .inl (fun _ => 0)), .inl (0, 656, .inl (fun _ => 0)), .inl (0, 640, .inl (fun _ => 0)), .inl (0, 40, .inl (fun _ => 0)), .inl (0, 40, .inl (fun _ => 0)), .inl (0, 40, .inl (fun _ => 0)), .inl (0, 40, .inl (fun _ => 0)), .inl (0, 40, .inl (fun _ => 0)), .inl (0, 40, .inl (fun _ => 0)), .inl (0, 40, .inl (fun _ => 0)), .inl (0, 40, .inl (fun _ => 0))] e e' := by
  have o0 : OBJ 294 3 [.null, .int 0, .int 0, .null, .int 0, .int 0, .null, .null, .null, .null, .null, .null, .null, .null, .null, .null, .null] [] e e := ⟨he, fun t ht => absurd ht (Nat.not_lt_zero t), fun _ _ => rfl⟩
  unfold fX3_init
  simp only [Nat.add_assoc, Nat.reduceAdd]
  obtain ⟨e1, c1, o1, n1⟩ := o0.wr (h := h) (j := 1) (v := .int 0) (l' := [.null, .int 0, .int 0, .null, .int 0, .int 0, .null, .null, .null, .null, .null, .null, .null, .null, .null, .null, .null]) (q := h + 294) (by decide) (Nat.le_of_ble_eq_true rfl) rfl rfl
  rw [c1]
  obtain ⟨e2, c2, o2, n2⟩ := o1.wr (h := h) (j := 2) (v := .int 0) (l' := [.null, .int 0, .int 0, .null, .int 0, .int 0, .null, .null, .null, .null, .null, .null, .null, .null, .null, .null, .null]) (q := h + 294) (by decide) (Nat.le_of_ble_eq_true rfl) rfl rfl
  rw [c2]
  obtain ⟨e3, c3, o3, _⟩ := o2.al (h := h) (j := 3) (v := .ref (h + 295)) (x := .inl (0, 656, .inl (fun _ => 0))) (l' := [.null, .int 0, .int 0, .ref (h + 295), .int 0, .int 0, .null, .null, .null, .null, .null, .null, .null, .null, .null, .null, .null]) (A' := [.inl (0, 656, .inl (fun _ => 0))]) (q := h + 294) (a := h + 295) (Nat.le_of_ble_eq_true rfl) (Nat.le_of_ble_eq_true rfl) rfl rfl rfl rfl
  rw [c3]
  obtain ⟨e4, c4, o4, n4⟩ := o3.wr (h := h) (j := 4) (v := .int 0) (l' := [.null, .int 0, .int 0, .ref (h + 295), .int 0, .int 0, .null, .null, .null, .null, .null, .null, .null, .null, .null, .null, .null]) (q := h + 294) (by decide) (Nat.le_of_ble_eq_true rfl) rfl rfl
  rw [c4]
  obtain ⟨e5, c5, o5, n5⟩ := o4.wr (h := h) (j := 5) (v := .int 0) (l' := [.null, .int 0, .int 0, .ref (h + 295), .int 0, .int 0, .null, .null, .null, .null, .null, .null, .null, .null, .null, .null, .null]) (q := h + 294) (by decide) (Nat.le_of_ble_eq_true rfl) rfl rfl
  rw [c5]
  obtain ⟨e6, c6, o6, _⟩ := o5.al (h := h) (j := 6) (v := .ref (h + 296)) (x := .inl (0, 656, .inl (fun _ => 0))) (l' := [.null, .int 0, .int 0, .ref (h + 295), .int 0, .int 0, .ref (h + 296), .null, .null, .null, .null, .null, .null, .null, .null, .null, .null]) (A' := [.inl (0, 656, .inl (fun _ => 0)), .inl (0, 656, .inl (fun _ => 0))]) (q := h + 294) (a := h + 296) (Nat.le_of_ble_eq_true rfl) (Nat.le_of_ble_eq_true rfl) rfl rfl rfl rfl
  rw [c6]
  obtain ⟨e7, c7, o7, _⟩ := o6.al (h := h) (j := 7) (v := .ref (h + 297)) (x := .inl (0, 656, .inl (fun _ => 0))) (l' := [.null, .int 0, .int 0, .ref (h + 295), .int 0, .int 0, .ref (h + 296), .ref (h + 297), .null, .null, .null, .null, .null, .null, .null, .null, .null]) (A' := [.inl (0, 656, .inl (fun _ => 0)), .inl (0, 656, .inl (fun _ => 0)), .inl (0, 656, .inl (fun _ => 0))]) (q := h + 294) (a := h + 297) (Nat.le_of_ble_eq_true rfl) (Nat.le_of_ble_eq_true rfl) rfl rfl rfl rfl
  rw [c7]
  obtain ⟨e8, c8, o8, _⟩ := o7.al (h := h) (j := 8) (v := .ref (h + 298)) (x := .inl (0, 640, .inl (fun _ => 0))) (l' := [.null, .int 0, .int 0, .ref (h + 295), .int 0, .int 0, .ref (h + 296), .ref (h + 297), .ref (h + 298), .null, .null, .null, .null, .null, .null, .null, .null]) (A' := [.inl (0, 656, .inl (fun _ => 0)), .inl (0, 656, .inl (fun _ => 0)), .inl (0, 656, .inl (fun _ => 0)), .inl (0, 640, .inl (fun _ => 0))]) (q := h + 294) (a := h + 298) (Nat.le_of_ble_eq_true rfl) (Nat.le_of_ble_eq_true rfl) rfl rfl rfl rfl
  rw [c8]
  obtain ⟨e9, c9, o9, _⟩ := o8.al (h := h) (j := 9) (v := .ref (h + 299)) (x := .inl (0, 40, .inl (fun _ => 0))) (l' := [.null, .int 0, .int 0, .ref (h + 295), .int 0, .int 0, .ref (h + 296), .ref (h + 297), .ref (h + 298), .ref (h + 299), .null, .null, .null, .null, .null, .null, .null]) (A' := [.inl (0, 656, .inl (fun _ => 0)), .inl (0, 656, .inl (fun _ => 0)), .inl (0, 656, .inl (fun _ => 0)), .inl (0, 640, .inl (fun _ => 0)), .inl (0, 40, .inl (fun _ => 0))]) (q := h + 294) (a := h + 299) (Nat.le_of_ble_eq_true rfl) (Nat.le_of_ble_eq_true rfl) rfl rfl rfl rfl
  rw [c9]
  obtain ⟨e10, c10, o10, _⟩ := o9.al (h := h) (j := 10) (v := .ref (h + 300)) (x := .inl (0, 40, .inl (fun _ => 0))) (l' := [.null, .int 0, .int 0, .ref (h + 295), .int 0, .int 0, .ref (h + 296), .ref (h + 297), .ref (h + 298), .ref (h + 299), .ref (h + 300), .null, .null, .null, .null, .null, .null]) (A' := [.inl (0, 656, .inl (fun _ => 0)), .inl (0, 656, .inl (fun _ => 0)), .inl (0, 656, .inl (fun _ => 0)), .inl (0, 640, .inl (fun _ => 0)), .inl (0, 40, .inl (fun _ => 0)), .inl (0, 40, .inl (fun _ => 0))]) (q := h + 294) (a := h + 300) (Nat.le_of_ble_eq_true rfl) (Nat.le_of_ble_eq_true rfl) rfl rfl rfl rfl
  rw [c10]
  obtain ⟨e11, c11, o11, _⟩ := o10.al (h := h) (j := 11) (v := .ref (h + 301)) (x := .inl (0, 40, .inl (fun _ => 0))) (l' := [.null, .int 0, .int 0, .ref (h + 295), .int 0, .int 0, .ref (h + 296), .ref (h + 297), .ref (h + 298), .ref (h + 299), .ref (h + 300), .ref (h + 301), .null, .null, .null, .null, .null]) (A' := [.inl (0, 656, .inl (fun _ => 0)), .inl (0, 656, .inl (fun _ => 0)), .inl (0, 656, .inl (fun _ => 0)), .inl (0, 640, .inl (fun _ => 0)), .inl (0, 40, .inl (fun _ => 0)), .inl (0, 40, .inl (fun _ => 0)), .inl (0, 40, .inl (fun _ => 0))]) (q := h + 294) (a := h + 301) (Nat.le_of_ble_eq_true rfl) (Nat.le_of_ble_eq_true rfl) rfl rfl rfl rfl
  rw [c11]
  obtain ⟨e12, c12, o12, _⟩ := o11.al (h := h) (j := 12) (v := .ref (h + 302)) (x := .inl (0, 40, .inl (fun _ => 0))) (l' := [.null, .int 0, .int 0, .ref (h + 295), .int 0, .int 0, .ref (h + 296), .ref (h + 297), .ref (h + 298), .ref (h + 299), .ref (h + 300), .ref (h + 301), .ref (h + 302), .null, .null, .null, .null]) (A' := [.inl (0, 656, .inl (fun _ => 0)), .inl (0, 656, .inl (fun _ => 0)), .inl (0, 656, .inl (fun _ => 0)), .inl (0, 640, .inl (fun _ => 0)), .inl (0, 40, .inl (fun _ => 0)), .inl (0, 40, .inl (fun _ => 0)), .inl (0, 40, .inl (fun _ => 0)), .inl (0, 40, .inl (fun _ => 0))]) (q := h + 294) (a := h + 302) (Nat.le_of_ble_eq_true rfl) (Nat.le_of_ble_eq_true rfl) rfl rfl rfl rfl
  rw [c12]
  obtain ⟨e13, c13, o13, _⟩ := o12.al (h := h) (j := 13) (v := .ref (h + 303)) (x := .inl (0, 40, .inl (fun _ => 0))) (l' := [.null, .int 0, .int 0, .ref (h + 295), .int 0, .int 0, .ref (h + 296), .ref (h + 297), .ref (h + 298), .ref (h + 299), .ref (h + 300), .ref (h + 301), .ref (h + 302), .ref (h + 303), .null, .null, .null]) (A' := [.inl (0, 656, .inl (fun _ => 0)), .inl (0, 656, .inl (fun _ => 0)), .inl (0, 656, .inl (fun _ => 0)), .inl (0, 640, .inl (fun _ => 0)), .inl (0, 40, .inl (fun _ => 0)), .inl (0, 40, .inl (fun _ => 0)), .inl (0, 40, .inl (fun _ => 0)), .inl (0, 40, .inl (fun _ => 0)), .inl (0, 40, .inl (fun _ => 0))]) (q := h + 294) (a := h + 303) (Nat.le_of_ble_eq_true rfl) (Nat.le_of_ble_eq_true rfl) rfl rfl rfl rfl
  rw [c13]
  obtain ⟨e14, c14, o14, _⟩ := o13.al (h := h) (j := 14) (v := .ref (h + 304)) (x := .inl (0, 40, .inl (fun _ => 0))) (l' := [.null, .int 0, .int 0, .ref (h + 295), .int 0, .int 0, .ref (h + 296), .ref (h + 297), .ref (h + 298), .ref (h + 299), .ref (h + 300), .ref (h + 301), .ref (h + 302), .ref (h + 303), .ref (h + 304), .null, .null]) (A' := [.inl (0, 656, .inl (fun _ => 0)), .inl (0, 656, .inl (fun _ => 0)), .inl (0, 656, .inl (fun _ => 0)), .inl (0, 640, .inl (fun _ => 0)), .inl (0, 40, .inl (fun _ => 0)), .inl (0, 40, .inl (fun _ => 0)), .inl (0, 40, .inl (fun _ => 0)), .inl (0, 40, .inl (fun _ => 0)), .inl (0, 40, .inl (fun _ => 0)), .inl (0, 40, .inl (fun _ => 0))]) (q := h + 294) (a := h + 304) (Nat.le_of_ble_eq_true rfl) (Nat.le_of_ble_eq_true rfl) rfl rfl rfl rfl
  rw [c14]
  obtain ⟨e15, c15, o15, _⟩ := o14.al (h := h) (j := 15) (v := .ref (h + 305)) (x := .inl (0, 40, .inl (fun _ => 0))) (l' := [.null, .int 0, .int 0, .ref (h + 295), .int 0, .int 0, .ref (h + 296), .ref (h + 297), .ref (h + 298), .ref (h + 299), .ref (h + 300), .ref (h + 301), .ref (h + 302), .ref (h + 303), .ref (h + 304), .ref (h + 305), .null]) (A' := [.inl (0, 656, .inl (fun _ => 0)), .inl (0, 656, .inl (fun _ => 0)), .inl (0, 656, .inl (fun _ => 0)), .inl (0, 640, .inl (fun _ => 0)), .inl (0, 40, .inl (fun _ => 0)), .inl (0, 40, .inl (fun _ => 0)), .inl (0, 40, .inl (fun _ => 0)), .inl (0, 40, .inl (fun _ => 0)), .inl (0, 40, .inl (fun _ => 0)), .inl (0, 40, .inl (fun _ => 0)), .inl (0, 40, .inl (fun _ => 0))]) (q := h + 294) (a := h + 305) (Nat.le_of_ble_eq_true rfl) (Nat.le_of_ble_eq_true rfl) rfl rfl rfl rfl
  rw [c15]
  obtain ⟨e16, c16, o16, _⟩ := o15.al (h := h) (j := 16) (v := .ref (h + 306)) (x := .inl (0, 40, .inl (fun _ => 0))) (l' := [.null, .int 0, .int 0, .ref (h + 295), .int 0, .int 0, .ref (h + 296), .ref (h + 297), .ref (h + 298), .ref (h + 299), .ref (h + 300), .ref (h + 301), .ref (h + 302), .ref (h + 303), .ref (h + 304), .ref (h + 305), .ref (h + 306)]) (A' := [.inl (0, 656, .inl (fun _ => 0)), .inl (0, 656, .inl (fun _ => 0)), .inl (0, 656, .inl (fun _ => 0)), .inl (0, 640, .inl (fun _ => 0)), .inl (0, 40, .inl (fun _ => 0)), .inl (0, 40, .inl (fun _ => 0)), .inl (0, 40, .inl (fun _ => 0)), .inl (0, 40, .inl (fun _ => 0)), .inl (0, 40, .inl (fun _ => 0)), .inl (0, 40, .inl (fun _ => 0)), .inl (0, 40, .inl (fun _ => 0)), .inl (0, 40, .inl (fun _ => 0))]) (q := h + 294) (a := h + 306) (Nat.le_of_ble_eq_true rfl) (Nat.le_of_ble_eq_true rfl) rfl rfl rfl rfl
  rw [c16]
  obtain ⟨e17, c17, o17, n17⟩ := o16.wr (h := h) (j := 0) (v := .ref p) (l' := [.ref p, .int 0, .int 0, .ref (h + 295), .int 0, .int 0, .ref (h + 296), .ref (h + 297), .ref (h + 298), .ref (h + 299), .ref (h + 300), .ref (h + 301), .ref (h + 302), .ref (h + 303), .ref (h + 304), .ref (h + 305), .ref (h + 306)]) (q := h + 294) (by decide) (Nat.le_of_ble_eq_true rfl) rfl rfl
  rw [c17]
  exact ⟨_, rfl, o17⟩
set_option maxHeartbeats 4000000 in
theorem s7_246 {p : Nat} (he : e 246 = some (.inr (7, [.null, .null, .int 0, .int 0, .int 0, .int 0]))) : ∃ e', fX7_init (Te h e) (h + 247) (h + 246) p = some (Te h e') ∧ OBJ 246 7 [.ref (h + 247), .ref p, .int 0, .int 0, .int 0, .int 0] [] e e' ∧ R8 h 247 e' := by
  obtain ⟨e0, k1, k2, k3, k4, k5, k6, k7, k8⟩ := i8 (h := h) (e := eu e 247 (.inr (8, n8))) (r := 247) (by decide) eu_at
  have o0 : OBJ 246 7 [.null, .null, .int 0, .int 0, .int 0, .int 0] [] e e0 := ⟨by rw [k8 246 (by omega), eu_ne (by omega)]; exact he, fun t ht => absurd ht (Nat.not_lt_zero t), fun i hi => by rw [k8 i (by omega), eu_ne (by omega)]⟩
  have r0 : R8 h 247 e0 := ⟨k2, k3, k4, k5, k6, k7⟩
  unfold fX7_init
  simp only [Nat.add_assoc, Nat.reduceAdd]
  rw [xlet_eq, Te_xu (by decide), show (fX8_init (Te h (eu e 247 (.inr (8, [.int 0, .int 0, .null, .null, .null, .null, .int 0, .null, .int 0])))) (h + 248) (h + 247)) = _ from k1, sb]
  obtain ⟨e1, c1, o1, n1⟩ := o0.wr (h := h) (j := 0) (v := .ref (h + 247)) (l' := [.ref (h + 247), .null, .int 0, .int 0, .int 0, .int 0]) (q := h + 246) (by decide) (Nat.le_of_ble_eq_true rfl) rfl rfl
  rw [c1]
  obtain ⟨e2, c2, o2, n2⟩ := o1.wr (h := h) (j := 2) (v := .int 0) (l' := [.ref (h + 247), .null, .int 0, .int 0, .int 0, .int 0]) (q := h + 246) (by decide) (Nat.le_of_ble_eq_true rfl) rfl rfl
  rw [c2]
  obtain ⟨e3, c3, o3, n3⟩ := o2.wr (h := h) (j := 3) (v := .int 0) (l' := [.ref (h + 247), .null, .int 0, .int 0, .int 0, .int 0]) (q := h + 246) (by decide) (Nat.le_of_ble_eq_true rfl) rfl rfl
  rw [c3]
  obtain ⟨e4, c4, o4, n4⟩ := o3.wr (h := h) (j := 4) (v := .int 0) (l' := [.ref (h + 247), .null, .int 0, .int 0, .int 0, .int 0]) (q := h + 246) (by decide) (Nat.le_of_ble_eq_true rfl) rfl rfl
  rw [c4]
  obtain ⟨e5, c5, o5, n5⟩ := o4.wr (h := h) (j := 5) (v := .int 0) (l' := [.ref (h + 247), .null, .int 0, .int 0, .int 0, .int 0]) (q := h + 246) (by decide) (Nat.le_of_ble_eq_true rfl) rfl rfl
  rw [c5]
  obtain ⟨e6, c6, o6, n6⟩ := o5.wr (h := h) (j := 1) (v := .ref p) (l' := [.ref (h + 247), .ref p, .int 0, .int 0, .int 0, .int 0]) (q := h + 246) (by decide) (Nat.le_of_ble_eq_true rfl) rfl rfl
  rw [c6]
  exact ⟨_, rfl, o6, r0.fr (fun i a b => by rw [n6 i (by omega), n5 i (by omega), n4 i (by omega), n3 i (by omega), n2 i (by omega), n1 i (by omega)])⟩
end OJ
