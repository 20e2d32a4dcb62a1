/-! DRAWINGS in the class: the drawing at the cells d to d + 12 -/
def Hz (d : Nat) : Prop := d + 12 < 310 ∧ 200 < d ∧ sh d = .inr (3, [4, 0, 0, d + 1 + 2, 0, 0, d + 2 + 2, d + 3 + 2, d + 4 + 2, d + 5 + 2, d + 6 + 2, d + 7 + 2, d + 8 + 2, d + 9 + 2, d + 10 + 2, d + 11 + 2, d + 12 + 2]) ∧ sh (d + 1) = .inl (0, 656) ∧ sh (d + 2) = .inl (0, 656) ∧ sh (d + 3) = .inl (0, 656) ∧ sh (d + 4) = .inl (0, 640) ∧ sh (d + 5) = .inl (0, 40) ∧ sh (d + 6) = .inl (0, 40) ∧ sh (d + 7) = .inl (0, 40) ∧ sh (d + 8) = .inl (0, 40) ∧ sh (d + 9) = .inl (0, 40) ∧ sh (d + 10) = .inl (0, 40) ∧ sh (d + 11) = .inl (0, 40) ∧ sh (d + 12) = .inl (0, 40)
theorem hz1 : Hz 281 := ⟨by decide, by decide, by decide +kernel, by decide +kernel, by decide +kernel, by decide +kernel, by decide +kernel, by decide +kernel, by decide +kernel, by decide +kernel, by decide +kernel, by decide +kernel, by decide +kernel, by decide +kernel, by decide +kernel⟩
theorem hz2 : Hz 294 := ⟨by decide, by decide, by decide +kernel, by decide +kernel, by decide +kernel, by decide +kernel, by decide +kernel, by decide +kernel, by decide +kernel, by decide +kernel, by decide +kernel, by decide +kernel, by decide +kernel, by decide +kernel, by decide +kernel⟩
section ZC
variable {h d : Nat} {s : Mm} {e : Int}
theorem hz_o (H : Hz d) : isO (M h s) (h + d) 3 = some () := isO_M H.2.2.1 (by have := H.1; omega)
theorem hz_0 (H : Hz d) : gR (M h s) (h + d) 3 0 = some (h + 2) := gR_M H.2.2.1 rfl (by have := H.1; omega) (by decide)
theorem hz_1 (H : Hz d) : gI (M h s) (h + d) 3 1 = some (s.1 d 1) := gI_M H.2.2.1 rfl (by have := H.1; omega)
theorem hzw_1 (H : Hz d) {v : Int32} : wrF (M h s) (h + d) 3 1 (.int v) = some (M h (mI s d (upd (s.1 d) 1 v))) := wI_M H.2.2.1 rfl (by have := H.1; omega)
theorem hz_2 (H : Hz d) : gI (M h s) (h + d) 3 2 = some (s.1 d 2) := gI_M H.2.2.1 rfl (by have := H.1; omega)
theorem hzw_2 (H : Hz d) {v : Int32} : wrF (M h s) (h + d) 3 2 (.int v) = some (M h (mI s d (upd (s.1 d) 2 v))) := wI_M H.2.2.1 rfl (by have := H.1; omega)
theorem hz_4 (H : Hz d) : gI (M h s) (h + d) 3 4 = some (s.1 d 4) := gI_M H.2.2.1 rfl (by have := H.1; omega)
theorem hzw_4 (H : Hz d) {v : Int32} : wrF (M h s) (h + d) 3 4 (.int v) = some (M h (mI s d (upd (s.1 d) 4 v))) := wI_M H.2.2.1 rfl (by have := H.1; omega)
theorem hz_5 (H : Hz d) : gI (M h s) (h + d) 3 5 = some (s.1 d 5) := gI_M H.2.2.1 rfl (by have := H.1; omega)
theorem hzw_5 (H : Hz d) {v : Int32} : wrF (M h s) (h + d) 3 5 (.int v) = some (M h (mI s d (upd (s.1 d) 5 v))) := wI_M H.2.2.1 rfl (by have := H.1; omega)
theorem hz_3 (H : Hz d) : gR (M h s) (h + d) 3 3 = some (h + (d + 1)) := gR_M H.2.2.1 rfl (by have := H.1; omega) (by have := H.1; omega)
theorem hz_6 (H : Hz d) : gR (M h s) (h + d) 3 6 = some (h + (d + 2)) := gR_M H.2.2.1 rfl (by have := H.1; omega) (by have := H.1; omega)
theorem hz_7 (H : Hz d) : gR (M h s) (h + d) 3 7 = some (h + (d + 3)) := gR_M H.2.2.1 rfl (by have := H.1; omega) (by have := H.1; omega)
theorem hz_8 (H : Hz d) : gR (M h s) (h + d) 3 8 = some (h + (d + 4)) := gR_M H.2.2.1 rfl (by have := H.1; omega) (by have := H.1; omega)
theorem hz_9 (H : Hz d) : gR (M h s) (h + d) 3 9 = some (h + (d + 5)) := gR_M H.2.2.1 rfl (by have := H.1; omega) (by have := H.1; omega)
theorem hz_10 (H : Hz d) : gR (M h s) (h + d) 3 10 = some (h + (d + 6)) := gR_M H.2.2.1 rfl (by have := H.1; omega) (by have := H.1; omega)
theorem hz_11 (H : Hz d) : gR (M h s) (h + d) 3 11 = some (h + (d + 7)) := gR_M H.2.2.1 rfl (by have := H.1; omega) (by have := H.1; omega)
theorem hz_12 (H : Hz d) : gR (M h s) (h + d) 3 12 = some (h + (d + 8)) := gR_M H.2.2.1 rfl (by have := H.1; omega) (by have := H.1; omega)
theorem hz_13 (H : Hz d) : gR (M h s) (h + d) 3 13 = some (h + (d + 9)) := gR_M H.2.2.1 rfl (by have := H.1; omega) (by have := H.1; omega)
theorem hz_14 (H : Hz d) : gR (M h s) (h + d) 3 14 = some (h + (d + 10)) := gR_M H.2.2.1 rfl (by have := H.1; omega) (by have := H.1; omega)
theorem hz_15 (H : Hz d) : gR (M h s) (h + d) 3 15 = some (h + (d + 11)) := gR_M H.2.2.1 rfl (by have := H.1; omega) (by have := H.1; omega)
theorem hz_16 (H : Hz d) : gR (M h s) (h + d) 3 16 = some (h + (d + 12)) := gR_M H.2.2.1 rfl (by have := H.1; omega) (by have := H.1; omega)
theorem za_1 (H : Hz d) (h1 : 0 ≤ e) (h2 : e < 656) : aI (M h s) (h + (d + 1)) 0 (i32 e) = some (s.1 (d + 1) e.toNat) := aI_M H.2.2.2.1 (by have := H.1; omega) (by decide) h1 h2 (by decide)
theorem zw_1 (H : Hz d) {v : Int32} (h1 : 0 ≤ e) (h2 : e < 656) : sI (M h s) (h + (d + 1)) (i32 e) v = some (M h (mI s (d + 1) (upd (s.1 (d + 1)) e.toNat v))) := sI_M H.2.2.2.1 (by have := H.1; omega) h1 h2 (by decide)
theorem za_2 (H : Hz d) (h1 : 0 ≤ e) (h2 : e < 656) : aI (M h s) (h + (d + 2)) 0 (i32 e) = some (s.1 (d + 2) e.toNat) := aI_M H.2.2.2.2.1 (by have := H.1; omega) (by decide) h1 h2 (by decide)
theorem zw_2 (H : Hz d) {v : Int32} (h1 : 0 ≤ e) (h2 : e < 656) : sI (M h s) (h + (d + 2)) (i32 e) v = some (M h (mI s (d + 2) (upd (s.1 (d + 2)) e.toNat v))) := sI_M H.2.2.2.2.1 (by have := H.1; omega) h1 h2 (by decide)
theorem za_3 (H : Hz d) (h1 : 0 ≤ e) (h2 : e < 656) : aI (M h s) (h + (d + 3)) 0 (i32 e) = some (s.1 (d + 3) e.toNat) := aI_M H.2.2.2.2.2.1 (by have := H.1; omega) (by decide) h1 h2 (by decide)
theorem zw_3 (H : Hz d) {v : Int32} (h1 : 0 ≤ e) (h2 : e < 656) : sI (M h s) (h + (d + 3)) (i32 e) v = some (M h (mI s (d + 3) (upd (s.1 (d + 3)) e.toNat v))) := sI_M H.2.2.2.2.2.1 (by have := H.1; omega) h1 h2 (by decide)
theorem za_4 (H : Hz d) (h1 : 0 ≤ e) (h2 : e < 640) : aI (M h s) (h + (d + 4)) 0 (i32 e) = some (s.1 (d + 4) e.toNat) := aI_M H.2.2.2.2.2.2.1 (by have := H.1; omega) (by decide) h1 h2 (by decide)
theorem zw_4 (H : Hz d) {v : Int32} (h1 : 0 ≤ e) (h2 : e < 640) : sI (M h s) (h + (d + 4)) (i32 e) v = some (M h (mI s (d + 4) (upd (s.1 (d + 4)) e.toNat v))) := sI_M H.2.2.2.2.2.2.1 (by have := H.1; omega) h1 h2 (by decide)
theorem za_5 (H : Hz d) (h1 : 0 ≤ e) (h2 : e < 40) : aI (M h s) (h + (d + 5)) 0 (i32 e) = some (s.1 (d + 5) e.toNat) := aI_M H.2.2.2.2.2.2.2.1 (by have := H.1; omega) (by decide) h1 h2 (by decide)
theorem zw_5 (H : Hz d) {v : Int32} (h1 : 0 ≤ e) (h2 : e < 40) : sI (M h s) (h + (d + 5)) (i32 e) v = some (M h (mI s (d + 5) (upd (s.1 (d + 5)) e.toNat v))) := sI_M H.2.2.2.2.2.2.2.1 (by have := H.1; omega) h1 h2 (by decide)
theorem za_6 (H : Hz d) (h1 : 0 ≤ e) (h2 : e < 40) : aI (M h s) (h + (d + 6)) 0 (i32 e) = some (s.1 (d + 6) e.toNat) := aI_M H.2.2.2.2.2.2.2.2.1 (by have := H.1; omega) (by decide) h1 h2 (by decide)
theorem zw_6 (H : Hz d) {v : Int32} (h1 : 0 ≤ e) (h2 : e < 40) : sI (M h s) (h + (d + 6)) (i32 e) v = some (M h (mI s (d + 6) (upd (s.1 (d + 6)) e.toNat v))) := sI_M H.2.2.2.2.2.2.2.2.1 (by have := H.1; omega) h1 h2 (by decide)
theorem za_7 (H : Hz d) (h1 : 0 ≤ e) (h2 : e < 40) : aI (M h s) (h + (d + 7)) 0 (i32 e) = some (s.1 (d + 7) e.toNat) := aI_M H.2.2.2.2.2.2.2.2.2.1 (by have := H.1; omega) (by decide) h1 h2 (by decide)
theorem zw_7 (H : Hz d) {v : Int32} (h1 : 0 ≤ e) (h2 : e < 40) : sI (M h s) (h + (d + 7)) (i32 e) v = some (M h (mI s (d + 7) (upd (s.1 (d + 7)) e.toNat v))) := sI_M H.2.2.2.2.2.2.2.2.2.1 (by have := H.1; omega) h1 h2 (by decide)
theorem za_8 (H : Hz d) (h1 : 0 ≤ e) (h2 : e < 40) : aI (M h s) (h + (d + 8)) 0 (i32 e) = some (s.1 (d + 8) e.toNat) := aI_M H.2.2.2.2.2.2.2.2.2.2.1 (by have := H.1; omega) (by decide) h1 h2 (by decide)
theorem zw_8 (H : Hz d) {v : Int32} (h1 : 0 ≤ e) (h2 : e < 40) : sI (M h s) (h + (d + 8)) (i32 e) v = some (M h (mI s (d + 8) (upd (s.1 (d + 8)) e.toNat v))) := sI_M H.2.2.2.2.2.2.2.2.2.2.1 (by have := H.1; omega) h1 h2 (by decide)
theorem za_9 (H : Hz d) (h1 : 0 ≤ e) (h2 : e < 40) : aI (M h s) (h + (d + 9)) 0 (i32 e) = some (s.1 (d + 9) e.toNat) := aI_M H.2.2.2.2.2.2.2.2.2.2.2.1 (by have := H.1; omega) (by decide) h1 h2 (by decide)
theorem zw_9 (H : Hz d) {v : Int32} (h1 : 0 ≤ e) (h2 : e < 40) : sI (M h s) (h + (d + 9)) (i32 e) v = some (M h (mI s (d + 9) (upd (s.1 (d + 9)) e.toNat v))) := sI_M H.2.2.2.2.2.2.2.2.2.2.2.1 (by have := H.1; omega) h1 h2 (by decide)
theorem za_10 (H : Hz d) (h1 : 0 ≤ e) (h2 : e < 40) : aI (M h s) (h + (d + 10)) 0 (i32 e) = some (s.1 (d + 10) e.toNat) := aI_M H.2.2.2.2.2.2.2.2.2.2.2.2.1 (by have := H.1; omega) (by decide) h1 h2 (by decide)
theorem zw_10 (H : Hz d) {v : Int32} (h1 : 0 ≤ e) (h2 : e < 40) : sI (M h s) (h + (d + 10)) (i32 e) v = some (M h (mI s (d + 10) (upd (s.1 (d + 10)) e.toNat v))) := sI_M H.2.2.2.2.2.2.2.2.2.2.2.2.1 (by have := H.1; omega) h1 h2 (by decide)
theorem za_11 (H : Hz d) (h1 : 0 ≤ e) (h2 : e < 40) : aI (M h s) (h + (d + 11)) 0 (i32 e) = some (s.1 (d + 11) e.toNat) := aI_M H.2.2.2.2.2.2.2.2.2.2.2.2.2.1 (by have := H.1; omega) (by decide) h1 h2 (by decide)
theorem zw_11 (H : Hz d) {v : Int32} (h1 : 0 ≤ e) (h2 : e < 40) : sI (M h s) (h + (d + 11)) (i32 e) v = some (M h (mI s (d + 11) (upd (s.1 (d + 11)) e.toNat v))) := sI_M H.2.2.2.2.2.2.2.2.2.2.2.2.2.1 (by have := H.1; omega) h1 h2 (by decide)
theorem za_12 (H : Hz d) (h1 : 0 ≤ e) (h2 : e < 40) : aI (M h s) (h + (d + 12)) 0 (i32 e) = some (s.1 (d + 12) e.toNat) := aI_M H.2.2.2.2.2.2.2.2.2.2.2.2.2.2 (by have := H.1; omega) (by decide) h1 h2 (by decide)
theorem zw_12 (H : Hz d) {v : Int32} (h1 : 0 ≤ e) (h2 : e < 40) : sI (M h s) (h + (d + 12)) (i32 e) v = some (M h (mI s (d + 12) (upd (s.1 (d + 12)) e.toNat v))) := sI_M H.2.2.2.2.2.2.2.2.2.2.2.2.2.2 (by have := H.1; omega) h1 h2 (by decide)
/-- what may have changed: the cells d + t, t of C, and the fields I of d -/
def Fz (C I : List Nat) (d : Nat) (s s' : Mm) : Prop := s'.2 = s.2 ∧ (∀ t, t ≠ 0 → t ∉ C → s'.1 (d + t) = s.1 (d + t)) ∧ (∀ i, i < d → s'.1 i = s.1 i) ∧ (∀ j, j ∉ I → s'.1 d j = s.1 d j)
theorem Fz.rf {C I : List Nat} : Fz C I d s s := ⟨rfl, fun _ _ _ => rfl, fun _ _ => rfl, fun _ _ => rfl⟩
theorem Fz.tr {C I : List Nat} {s' s'' : Mm} (h1 : Fz C I d s s') (h2 : Fz C I d s' s'') : Fz C I d s s'' := ⟨h2.1.trans h1.1, fun t a b => (h2.2.1 t a b).trans (h1.2.1 t a b), fun i a => (h2.2.2.1 i a).trans (h1.2.2.1 i a), fun j a => (h2.2.2.2 j a).trans (h1.2.2.2 j a)⟩
theorem Fz.mono {C I C' I' : List Nat} {s' : Mm} (h1 : Fz C I d s s') (a1 : ∀ t ∈ C, t ∈ C') (a2 : ∀ t ∈ I, t ∈ I') : Fz C' I' d s s' := ⟨h1.1, fun t a b => h1.2.1 t a (fun hc => b (a1 t hc)), h1.2.2.1, fun j a => h1.2.2.2 j (fun hc => a (a2 j hc))⟩
theorem Fz.fI {C I : List Nat} {s' : Mm} (h1 : Fz C I d s s') {j : Nat} {v : Int32} (hj : j ∈ I) : Fz C I d s (mI s' d (upd (s'.1 d) j v)) := ⟨h1.1, fun q a b => by
  rw [mI_ne (by omega)]; exact h1.2.1 q a b, fun i a => by
  rw [mI_ne (by omega)]; exact h1.2.2.1 i a, fun q a => by
  rw [mI_at, upd_ne (fun e => a (by rw [e]; exact hj))]; exact h1.2.2.2 q a⟩
theorem Fz.mI {C I : List Nat} {s' : Mm} (h1 : Fz C I d s s') {t : Nat} {f : Nat → Int32} (ht : t ∈ C) (h0 : t ≠ 0) : Fz C I d s (mI s' (d + t) f) := ⟨h1.1, fun q a b => by
  rw [mI_ne (fun e => b (by rw [show q = t by omega]; exact ht))]; exact h1.2.1 q a b, fun i a => by
  rw [mI_ne (by omega)]; exact h1.2.2.1 i a, fun j a => by
  rw [mI_ne (by omega)]; exact h1.2.2.2 j a⟩
theorem Fz.fr {C I : List Nat} {s' : Mm} (h1 : Fz C I d s s') (hC : ∀ t ∈ C, t ≤ 12) : Fr d (d + 12) s s' := fun i hi => ⟨by
  by_cases c : i < d
  · exact h1.2.2.1 i c
  · have := h1.2.1 (i - d) (by omega) (fun hc => by have := hC _ hc; omega)
    rw [show d + (i - d) = i by omega] at this
    exact this, by rw [h1.1]⟩
theorem RS.fz {C I : List Nat} {S : Sys} {s' : Mm} (hR : RS s 3 S) (H : Hz d) (h1 : Fz C I d s s') : RS s' 3 S := by
  have := H.2.1
  unfold RS
  rw [h1.2.2.1 3 (by omega), h1.2.2.1 (3 + 3) (by omega), h1.2.2.1 (3 + 4) (by omega), h1.1]
  exact hR
/-- the row of letters -/
def Zr (s : Mm) (d : Nat) (R : List Nat) : Prop := s.1 d 4 = i32 (R.length : Int) ∧ ∀ j, j < R.length → s.1 (d + 1) j = i32 ((R.getD j 0 : Nat) : Int)
theorem Zr.fz {C I : List Nat} {R : List Nat} {s' : Mm} (hR : Zr s d R) (h1 : Fz C I d s s') (hc : 1 ∉ C) (hi : 4 ∉ I) : Zr s' d R := ⟨(h1.2.2.2 4 hi).trans hR.1, fun j hj => by rw [h1.2.1 1 (by decide) hc]; exact hR.2 j hj⟩
theorem c_zrep (H : Hz d) {R : List Nat} {p k a b f : Nat} (hk : k < 40) (hR : Zr s d R) (ha : s.1 (d + 5) k = i32 (a : Int)) (hb : s.1 (d + 6) k = i32 (b : Int)) (hf : s.1 (d + 7) k = i32 (f : Int)) (hp : p + a ≤ R.length) (h1 : R.length ≤ 656) (h2 : R.length + b ≤ 656 + a) (hfb : f ≤ 100000) :
    ∃ s', fX3_replaceInRow (M h s) (h + d) (i32 (p : Int)) (i32 (k : Int)) = some (M h s') ∧ Fz [1] [4] d s s' ∧ Zr s' d (zrp R p a (List.range' f b)) := by
  have hsh := H.2.2.2.1
  have hd1 := H.1
  have e0 : acI (M h s) (h + (d + 1)) (i32 ((p : Int) + (a : Int))) (h + (d + 1)) (i32 ((p : Int) + (b : Int))) (i32 ((R.length : Int) - (p : Int) - (a : Int))) = some (M h (mI s (d + 1) (va_cpy (s.1 (d + 1)) (s.1 (d + 1)) (p + a) (p + b) (R.length - p - a)))) := by
    rw [acI_M hsh (by omega) hsh (by omega) (by omega) (by omega) (by omega) (by omega) (by omega) (by decide) (by decide), show ((p : Int) + (a : Int)).toNat = p + a by omega, show ((p : Int) + (b : Int)).toNat = p + b by omega, show ((R.length : Int) - (p : Int) - (a : Int)).toNat = R.length - p - a by omega]
  have hloop : iterP (fLX3_replaceInRow_66 (h + d) (i32 (p : Int)) (i32 (k : Int)) (i32 ((R.length : Int) - (p : Int) - (a : Int)))) (0, M h (mI s (d + 1) (va_cpy (s.1 (d + 1)) (s.1 (d + 1)) (p + a) (p + b) (R.length - p - a)))) = some (M h (mI s (d + 1) (fun j => if p ≤ j ∧ j < p + b then i32 ((f + (j - p) : Nat) : Int) else va_cpy (s.1 (d + 1)) (s.1 (d + 1)) (p + a) (p + b) (R.length - p - a) j))) := by
    refine iter_to b (fun m => (i32 (m : Int), M h (mI s (d + 1) (fun j => if p ≤ j ∧ j < p + m then i32 ((f + (j - p) : Nat) : Int) else va_cpy (s.1 (d + 1)) (s.1 (d + 1)) (p + a) (p + b) (R.length - p - a) j)))) ?_ (fun m hm => ?_) ?_
    · refine Prod.ext rfl ?_
      refine congrArg (fun F => M h (mI s (d + 1) F)) (funext (fun j => ?_))
      rw [if_neg (by omega)]
    · unfold fLX3_replaceInRow_66
      simp only []
      rw [hz_10 H, sb, za_6 H (by omega) (by omega), sb, mI_ne (by omega), tn0, hb, if_neg (by rw [le32 (by omega) (by omega) (by omega) (by omega)]; omega), hz_3 H, sb, hz_11 H, sb, za_7 H (by omega) (by omega), sb, mI_ne (by omega), tn0, hf, a32, a32, zw_1 H (by omega) (by omega), sb, xlet_eq, q1, a32, mI_mI, mI_at, show ((p : Int) + (m : Int)).toNat = p + m by omega]
      refine congrArg (fun F => some (Sum.inl (i32 ((m : Int) + 1), M h (mI s (d + 1) F)))) (funext (fun j => ?_))
      by_cases c : j = p + m
      · subst c
        rw [upd_at, if_pos (by omega)]
        congr 1; omega
      · rw [upd_ne c]
        by_cases c2 : p ≤ j ∧ j < p + m
        · rw [if_pos c2, if_pos (by omega)]
        · rw [if_neg c2, if_neg (by omega)]
    · unfold fLX3_replaceInRow_66
      simp only []
      rw [hz_10 H, sb, za_6 H (by omega) (by omega), sb, mI_ne (by omega), tn0, hb, if_pos (by rw [le32 (by omega) (by omega) (by omega) (by omega)]; omega)]
  refine ⟨mI (mI s (d + 1) (fun j => if p ≤ j ∧ j < p + b then i32 ((f + (j - p) : Nat) : Int) else va_cpy (s.1 (d + 1)) (s.1 (d + 1)) (p + a) (p + b) (R.length - p - a) j)) d (upd ((mI s (d + 1) (fun j => if p ≤ j ∧ j < p + b then i32 ((f + (j - p) : Nat) : Int) else va_cpy (s.1 (d + 1)) (s.1 (d + 1)) (p + a) (p + b) (R.length - p - a) j)).1 d) 4 (i32 ((zrp R p a (List.range' f b)).length : Int))), ?_, (Fz.rf.mI (by decide) (by decide)).fI (by decide), ?_, ?_⟩
  · unfold fX3_replaceInRow
    rw [hz_4 H, sb, hR.1, hz_9 H, sb, za_5 H (by omega) (by omega), sb, tn0, ha, xlet_eq, s32, s32, if_neg (by rw [q0]; rw [lt32 (by omega) (by omega) (by omega) (by omega)]; omega), hz_10 H, sb, za_6 H (by omega) (by omega), sb, tn0, hb, a32, a32, q656, if_pos (by rw [le32 (by omega) (by omega) (by omega) (by omega)]; omega), hz_3 H, sb, sb, za_5 H (by omega) (by omega), sb, tn0, ha, sb, sb, za_6 H (by omega) (by omega), sb, tn0, hb, a32, a32, e0, sb, hloop, sb, hz_10 H, sb, za_6 H (by omega) (by omega), sb, mI_ne (by omega), tn0, hb, a32, a32, hzw_4 H, sb, zrp_len hp, mI_ne (by omega)]
    congr 5
    omega
  · rw [mI_at, upd_at]
  · intro j hj
    rw [zrp_len hp] at hj
    rw [mI_ne (by omega), mI_at, zrp_get hp]
    by_cases c1 : j < p
    · rw [if_pos c1, if_neg (by omega)]
      unfold va_cpy
      rw [if_neg (by omega)]; exact hR.2 j (by omega)
    · rw [if_neg c1]
      by_cases c2 : j < p + b
      · rw [if_pos c2, if_pos (by omega)]
      · rw [if_neg c2, if_neg (by omega)]
        unfold va_cpy
        rw [if_pos (by omega), show p + a + (j - (p + b)) = j - b + a by omega]
        exact hR.2 _ (by omega)
/-- what step k takes -/
def Zt (s : Mm) (d k : Nat) (A : List Nat) : Prop := s.1 (d + 5) k = i32 (A.length : Int) ∧ ∀ j, j < A.length → s.1 (d + 4) (k * 16 + j) = i32 ((A.getD j 0 : Nat) : Int)
theorem Zt.fz {C I : List Nat} {k : Nat} {A : List Nat} {s' : Mm} (hR : Zt s d k A) (h1 : Fz C I d s s') (hc : 5 ∉ C) (hi : 4 ∉ C) : Zt s' d k A := ⟨by rw [h1.2.1 5 (by decide) hc]; exact hR.1, fun j hj => by rw [h1.2.1 4 (by decide) hi]; exact hR.2 j hj⟩
theorem c_zlies (H : Hz d) {R A : List Nat} {p k : Nat} (hk : k < 40) (hR : Zr s d R) (hT : Zt s d k A) (hA : A.length ≤ 16) (hp : p < R.length) (h1 : R.length ≤ 656) (hb : ∀ i ∈ R, i < 656) (hbA : ∀ i ∈ A, i < 656) : fX3_liesAt (M h s) (h + d) (i32 (p : Int)) (i32 (k : Int)) = some (if ztk R p A.length = A then 1 else 0) := by
  unfold fX3_liesAt
  rw [hz_9 H, sb, za_5 H (by omega) (by omega), sb, tn0, hT.1, hz_4 H, sb, hR.1, a32]
  by_cases c : p + A.length ≤ R.length
  · rw [if_pos (by rw [le32 (by omega) (by omega) (by omega) (by omega)]; omega), loop_find (fun j => decide (¬ R.getD (p + j) 0 = A.getD j 0)) (fun j => i32 (j : Int)) (.inr ()) (fun _ => .inl ()) A.length ?_ ?_ (show (0 : Int32) = _ from rfl), sb]
    · cases ef : (List.range A.length).find? (fun j => decide (¬ R.getD (p + j) 0 = A.getD j 0)) with
      | none =>
        have h9 := find_none ef
        rw [if_pos ((ztk_eq c).mpr (fun j hj => by
          have := h9 j hj
          rw [decide_eq_false_iff_not] at this
          exact Classical.not_not.mp this))]
      | some j =>
        obtain ⟨j1, j2, -⟩ := find_some ef
        rw [if_neg (fun h9 => of_decide_eq_true j2 ((ztk_eq c).mp h9 j j1))]
    · intro j hj
      have x1 := hb _ (getD_mem (d := 0) (show p + j < R.length by omega))
      have x2 := hbA _ (getD_mem (d := 0) hj)
      unfold fLX3_liesAt_19
      rw [hz_9 H, sb, za_5 H (by omega) (by omega), sb, tn0, hT.1, if_neg (by rw [le32 (by omega) (by omega) (by omega) (by omega)]; omega), hz_3 H, sb, a32, za_1 H (by omega) (by omega), sb, show ((p : Int) + (j : Int)).toNat = p + j by omega, hR.2 _ (by omega), hz_8 H, sb, q16, m32, a32, za_4 H (by omega) (by omega), sb, show ((k : Int) * 16 + (j : Int)).toNat = k * 16 + j by omega, hT.2 j hj]
      by_cases c2 : R.getD (p + j) 0 = A.getD j 0
      · rw [if_pos (by rw [c2]), if_neg (by rw [decide_eq_true_eq]; exact fun hn => hn c2), xlet_eq, q1, a32]; rfl
      · rw [if_neg (by rw [eq32 (by omega) (by omega) (by omega) (by omega)]; omega), if_pos (decide_eq_true c2)]
    · unfold fLX3_liesAt_19
      rw [hz_9 H, sb, za_5 H (by omega) (by omega), sb, tn0, hT.1, if_pos (by rw [le32 (by omega) (by omega) (by omega) (by omega)]; omega)]
  · rw [if_neg (by rw [le32 (by omega) (by omega) (by omega) (by omega)]; omega), if_neg (fun h9 => ?_)]
    have := congrArg List.length h9
    unfold ztk at this
    rw [List.length_take, List.length_drop] at this
    omega
theorem c_zadd (H : Hz d) {ev n : Nat} {v : Int32} (he : s.1 d 5 = i32 (ev : Int)) (hn : ev + n ≤ 656) : ∃ s', fX3_addLetters (M h s) (h + d) (i32 (n : Int)) v = some (M h s') ∧ Fz [2, 3] [5] d s s' ∧ s'.1 d 5 = i32 ((ev + n : Nat) : Int) ∧ (∀ j, j < ev → s'.1 (d + 2) j = s.1 (d + 2) j ∧ s'.1 (d + 3) j = s.1 (d + 3) j) ∧ (∀ j, ev ≤ j → j < ev + n → s'.1 (d + 2) j = v ∧ s'.1 (d + 3) j = -1) := by
  have key : ∃ y, iterP (fLX3_addLetters_2 (h + d) (i32 (n : Int)) v) (0, M h s) = some y ∧ ∃ s', y = M h s' ∧ Fz [2, 3] [5] d s s' ∧ s'.1 d 5 = i32 ((ev + n : Nat) : Int) ∧ (∀ j, j < ev → s'.1 (d + 2) j = s.1 (d + 2) j ∧ s'.1 (d + 3) j = s.1 (d + 3) j) ∧ (∀ j, ev ≤ j → j < ev + n → s'.1 (d + 2) j = v ∧ s'.1 (d + 3) j = -1) := by
    refine loop_ex (fun m x => ∃ s', x = (i32 (m : Int), M h s') ∧ Fz [2, 3] [5] d s s' ∧ s'.1 d 5 = i32 ((ev + m : Nat) : Int) ∧ (∀ j, j < ev → s'.1 (d + 2) j = s.1 (d + 2) j ∧ s'.1 (d + 3) j = s.1 (d + 3) j) ∧ (∀ j, ev ≤ j → j < ev + m → s'.1 (d + 2) j = v ∧ s'.1 (d + 3) j = -1)) _ n (fun m x hm hx => ?_) (fun x hx => ?_) ⟨s, rfl, Fz.rf, he, fun j _ => ⟨rfl, rfl⟩, fun j a b => absurd b (by omega)⟩
    · obtain ⟨s1, rfl, f1, f2, f3, f4⟩ := hx
      refine ⟨(i32 ((m + 1 : Nat) : Int), M h (mI (mI (mI s1 (d + 2) (upd (s1.1 (d + 2)) (ev + m) v)) (d + 3) (upd (s1.1 (d + 3)) (ev + m) (-1))) d (upd (s1.1 d) 5 (i32 ((ev + (m + 1) : Nat) : Int))))), ?_, _, rfl, ?_, ?_, ?_, ?_⟩
      · have a1 : (mI s1 (d + 2) (upd (s1.1 (d + 2)) (ev + m) v)).1 d 5 = i32 ((ev + m : Nat) : Int) := by rw [mI_ne (by omega)]; exact f2
        have a2 : (mI (mI s1 (d + 2) (upd (s1.1 (d + 2)) (ev + m) v)) (d + 3) (upd (s1.1 (d + 3)) (ev + m) (-1))).1 d 5 = i32 ((ev + m : Nat) : Int) := by rw [mI_ne (by omega)]; exact a1
        unfold fLX3_addLetters_2
        simp only []
        rw [if_neg (by rw [le32 (by omega) (by omega) (by omega) (by omega)]; omega), hz_5 H, sb, f2, q656, if_neg (by rw [le32 (by omega) (by omega) (by omega) (by omega)]; omega), hz_6 H, sb, sb, zw_2 H (by omega) (by omega), sb, tn0, hz_7 H, sb, hz_5 H, sb, a1, zw_3 H (by omega) (by omega), sb, tn0, mI_ne (show d + 3 ≠ d + 2 by omega), hz_5 H, sb, a2, hzw_5 H, sb, xlet_eq, q1, a32, a32, mI_ne (show d ≠ d + 3 by omega), mI_ne (show d ≠ d + 2 by omega)]
        rfl
      · have a3 := ((f1.mI (t := 2) (f := upd (s1.1 (d + 2)) (ev + m) v) (by decide) (by decide)).mI (t := 3) (f := upd (s1.1 (d + 3)) (ev + m) (-1)) (by decide) (by decide)).fI (j := 5) (v := i32 ((ev + (m + 1) : Nat) : Int)) (by decide)
        rw [mI_ne (show d ≠ d + 3 by omega), mI_ne (show d ≠ d + 2 by omega)] at a3
        exact a3
      · rw [mI_at, upd_at]
      · intro j hj
        rw [mI_ne (by omega), mI_ne (by omega), mI_at, mI_ne (by omega), mI_at, upd_ne (by omega), upd_ne (by omega)]
        exact f3 j hj
      · intro j a b
        rw [mI_ne (by omega), mI_ne (by omega), mI_at, mI_ne (by omega), mI_at]
        by_cases c : j = ev + m
        · subst c
          rw [upd_at, upd_at]; exact ⟨rfl, rfl⟩
        · rw [upd_ne c, upd_ne c]; exact f4 j a (by omega)
    · obtain ⟨s1, rfl, f1⟩ := hx
      refine ⟨M h s1, ?_, s1, rfl, f1⟩
      unfold fLX3_addLetters_2
      rw [if_pos (by rw [le32 (by omega) (by omega) (by omega) (by omega)]; omega)]
  obtain ⟨y, e1, s', rfl, f1⟩ := key
  refine ⟨s', ?_, f1⟩
  unfold fX3_addLetters
  rw [e1, sb]
end ZC
