/-! DESKS and ACTS in the class -/
abbrev Pls : Type := Nat → List Nat × List (Nat × Nat)
abbrev Snap : Type := Sys × Pls
def nowP (X : Snap) (q : Nat) : List Nat := dvW X.1 (X.2 q).1 (X.2 q).2
def PX (s : Mm) (d : Nat) (X : Snap) : Prop := ∀ q, q < 6 → s.2 (d + 7) q = i64 (cw (X.2 q).1 : Int) ∧ s.2 (d + 8) q = i64 (cw (nowP X q) : Int) ∧ s.1 (d + 9) q = i32 ((X.2 q).2.length : Int) ∧ (∀ k, k < (X.2 q).2.length → s.1 (d + 10) (q * 40 + k) = i32 (cod ((X.2 q).2.getD k (0, 0)) : Int))
def VX (X : Snap) : Prop := WfS X.1 ∧ ∀ q, q < 6 → dvOk X.1 (X.2 q).1 (X.2 q).2 ∧ (X.2 q).2.length ≤ 40
def DX (s : Mm) (d : Nat) (X : Snap) : Prop := RS s (d + 1) X.1 ∧ PX s d X ∧ VX X
def Hd (d : Nat) : Prop := d + 10 < 300 ∧ sh d = .inr (2, [d + 1 + 2, d + 7 + 2, d + 8 + 2, d + 9 + 2, d + 10 + 2]) ∧ Rb (d + 1) ∧ sh (d + 7) = .inl (1, 6) ∧ sh (d + 8) = .inl (1, 6) ∧ sh (d + 9) = .inl (0, 6) ∧ sh (d + 10) = .inl (0, 240)
theorem hd2 : Hd 2 := ⟨by decide, by decide +kernel, rb3, by decide +kernel, by decide +kernel, by decide +kernel, by decide +kernel⟩
theorem hd13 : Hd 13 := ⟨by decide, by decide +kernel, rb14, by decide +kernel, by decide +kernel, by decide +kernel, by decide +kernel⟩
theorem hd_ring : ∀ k, k < 20 → Hd (26 + 11 * k) := by
  have a1 : ∀ k, k < 20 → sh (26 + 11 * k) = .inr (2, [26 + 11 * k + 1 + 2, 26 + 11 * k + 7 + 2, 26 + 11 * k + 8 + 2, 26 + 11 * k + 9 + 2, 26 + 11 * k + 10 + 2]) := by decide +kernel
  have a2 : ∀ k, k < 20 → sh (26 + 11 * k + 7) = .inl (1, 6) ∧ sh (26 + 11 * k + 8) = .inl (1, 6) ∧ sh (26 + 11 * k + 9) = .inl (0, 6) ∧ sh (26 + 11 * k + 10) = .inl (0, 240) := by decide +kernel
  have a3 : ∀ k, k < 20 → sh (26 + 11 * k + 1) = .inr (8, [0, 0, 26 + 11 * k + 1 + 1 + 2, 26 + 11 * k + 1 + 2 + 2, 26 + 11 * k + 1 + 3 + 2, 26 + 11 * k + 1 + 4 + 2, 0, 26 + 11 * k + 1 + 5 + 2, 0]) := by decide +kernel
  have a4 : ∀ k, k < 20 → sh (26 + 11 * k + 1 + 1) = .inl (1, 12) ∧ sh (26 + 11 * k + 1 + 2) = .inl (1, 12) := by decide +kernel
  have a5 : ∀ k, k < 20 → sh (26 + 11 * k + 1 + 3) = .inl (0, 5) ∧ sh (26 + 11 * k + 1 + 4) = .inl (0, 5) ∧ sh (26 + 11 * k + 1 + 5) = .inl (0, 5) := by decide +kernel
  intro k hk
  exact ⟨by omega, a1 k hk, ⟨by omega, a3 k hk, (a4 k hk).1, (a4 k hk).2, a5 k hk⟩, a2 k hk⟩
section DK
variable {h : Nat} {s : Mm} {X : Snap}
theorem cpy_lt {α : Type} {f g : Nat → α} {N k : Nat} (hk : k < N) : va_cpy f g 0 0 N k = f k := by
  unfold va_cpy
  rw [if_pos (by omega)]
  congr 1; omega
theorem cpL {i i' n n' : Nat} (N : Nat) (hs : sh i = .inl (1, n)) (hi : i < 340) (hs' : sh i' = .inl (1, n')) (hi' : i' < 340) (h1 : N ≤ n) (h2 : N ≤ n') (h3 : n ≤ 10000) (h4 : n' ≤ 10000) : acL (M h s) (h + i) 0 (h + i') 0 (i32 (N : Int)) = some (M h (mL s i' (va_cpy (s.2 i) (s.2 i') 0 0 N))) := by
  have := acL_M (h := h) (s := s) (a := 0) (b := 0) (d := (N : Int)) hs hi hs' hi' (by omega) (by omega) (by omega) (by omega) (by omega) (by omega) (by omega)
  rw [show ((N : Int)).toNat = N from tn0 N] at this
  exact this
theorem cpI {i i' n n' : Nat} (N : Nat) (hs : sh i = .inl (0, n)) (hi : i < 340) (hs' : sh i' = .inl (0, n')) (hi' : i' < 340) (h1 : N ≤ n) (h2 : N ≤ n') (h3 : n ≤ 10000) (h4 : n' ≤ 10000) : acI (M h s) (h + i) 0 (h + i') 0 (i32 (N : Int)) = some (M h (mI s i' (va_cpy (s.1 i) (s.1 i') 0 0 N))) := by
  have := acI_M (h := h) (s := s) (a := 0) (b := 0) (d := (N : Int)) hs hi hs' hi' (by omega) (by omega) (by omega) (by omega) (by omega) (by omega) (by omega)
  rw [show ((N : Int)).toNat = N from tn0 N] at this
  exact this
theorem c_copyRules {r1 r2 : Nat} (H1 : Rb r1) (H2 : Rb r2) (hd : r1 + 5 < r2 ∨ r2 + 5 < r1) {S : Sys} (hS : WfS S) (hR : RS s r2 S) : ∃ s', fX8_copyFrom (M h s) (h + r1) (h + r2) = some (M h s') ∧ RS s' r1 S ∧ Fr r1 (r1 + 4) s s' ∧ s'.1 r1 6 = s.1 r1 6 + 1 ∧ (∀ j, j ≠ 0 → j ≠ 1 → j ≠ 6 → s'.1 r1 j = s.1 r1 j) := by
  have h12 := hS.2.1
  have hK := hS.1.2
  have b1 := H1.1
  have b2 := H2.1
  obtain ⟨s1, es1⟩ : ∃ s1, s1 = mI s r1 (upd (s.1 r1) 0 (i32 (S.1 : Int))) := ⟨_, rfl⟩
  obtain ⟨s2, es2⟩ : ∃ s2, s2 = mI s1 r1 (upd (s1.1 r1) 1 (i32 (nr S : Int))) := ⟨_, rfl⟩
  have f2 : Fr r1 (r1 + 4) s s2 := by rw [es2, es1]; exact (Fr.rf.mI (by omega) (by omega)).mI (by omega) (by omega)
  obtain ⟨s3, es3⟩ : ∃ s3, s3 = mL s2 (r1 + 1) (va_cpy (s2.2 (r2 + 1)) (s2.2 (r1 + 1)) 0 0 12) := ⟨_, rfl⟩
  have f3 : Fr r1 (r1 + 4) s s3 := by rw [es3]; exact f2.mL (by omega) (by omega)
  obtain ⟨s4, es4⟩ : ∃ s4, s4 = mL s3 (r1 + 2) (va_cpy (s3.2 (r2 + 2)) (s3.2 (r1 + 2)) 0 0 12) := ⟨_, rfl⟩
  have f4 : Fr r1 (r1 + 4) s s4 := by rw [es4]; exact f3.mL (by omega) (by omega)
  obtain ⟨s5, es5⟩ : ∃ s5, s5 = mI s4 (r1 + 3) (va_cpy (s4.1 (r2 + 3)) (s4.1 (r1 + 3)) 0 0 5) := ⟨_, rfl⟩
  have f5 : Fr r1 (r1 + 4) s s5 := by rw [es5]; exact f4.mI (by omega) (by omega)
  obtain ⟨s6, es6⟩ : ∃ s6, s6 = mI s5 (r1 + 4) (va_cpy (s5.1 (r2 + 4)) (s5.1 (r1 + 4)) 0 0 5) := ⟨_, rfl⟩
  have f6 : Fr r1 (r1 + 4) s s6 := by rw [es6]; exact f5.mI (by omega) (by omega)
  have g20 : s1.1 r2 1 = i32 (nr S : Int) := by rw [es1, mI_ne (by omega)]; exact hR.2.1
  have g6 : s6.1 r1 = s2.1 r1 := by rw [es6, mI_ne (by omega), es5, mI_ne (by omega), es4, es3]; rfl
  have g66 : s6.1 r1 6 = s.1 r1 6 := by rw [g6, es2, mI_at, upd_ne (by decide), es1, mI_at, upd_ne (by decide)]
  refine ⟨mI s6 r1 (upd (s6.1 r1) 6 (s.1 r1 6 + 1)), ?_, ⟨?_, ?_, fun k hk => ?_, fun k hk => ?_, fun x hx => ?_, fun x hx => ?_⟩, f6.mI (by omega) (by omega), by rw [mI_at, upd_at], fun j x y z => ?_⟩
  · have w1 : wrF (M h s) (h + r1) 8 0 (.int (i32 (S.1 : Int))) = some (M h s1) := by rw [rbw_0 H1, es1]
    have w2 : wrF (M h s1) (h + r1) 8 1 (.int (i32 (nr S : Int))) = some (M h s2) := by rw [rbw_1 H1, es2]
    have w3 : acL (M h s2) (h + (r2 + 1)) 0 (h + (r1 + 1)) 0 12 = some (M h s3) := by rw [es3]; exact cpL 12 H2.2.2.1 (by omega) H1.2.2.1 (by omega) (by decide) (by decide) (by decide) (by decide)
    have w4 : acL (M h s3) (h + (r2 + 2)) 0 (h + (r1 + 2)) 0 12 = some (M h s4) := by rw [es4]; exact cpL 12 H2.2.2.2.1 (by omega) H1.2.2.2.1 (by omega) (by decide) (by decide) (by decide) (by decide)
    have w5 : acI (M h s4) (h + (r2 + 3)) 0 (h + (r1 + 3)) 0 5 = some (M h s5) := by rw [es5]; exact cpI 5 H2.2.2.2.2.1 (by omega) H1.2.2.2.2.1 (by omega) (by decide) (by decide) (by decide) (by decide)
    have w6 : acI (M h s5) (h + (r2 + 4)) 0 (h + (r1 + 4)) 0 5 = some (M h s6) := by rw [es6]; exact cpI 5 H2.2.2.2.2.2.1 (by omega) H1.2.2.2.2.2.1 (by omega) (by decide) (by decide) (by decide) (by decide)
    unfold fX8_copyFrom
    rw [rb_0 H2, sb, hR.1, w1, sb, rb_1 H2, sb, g20, w2, sb, rb_2 H2, sb, rb_2 H1, sb, w3, sb, rb_3 H2, sb, rb_3 H1, sb, w4, sb, rb_4 H2, sb, rb_4 H1, sb, w5, sb, rb_5 H2, sb, rb_5 H1, sb, w6, sb, rb_6 H1, sb, g66, rbw_6 H1, sb]
  · rw [mI_at, upd_ne (by decide), g6, es2, mI_at, upd_ne (by decide), es1, mI_at, upd_at]
  · rw [mI_at, upd_ne (by decide), g6, es2, mI_at, upd_at]
  · show s6.2 (r1 + 1) k = _
    rw [show s6.2 = s4.2 from by rw [es6, es5]; rfl, es4, mL_ne (by omega), es3, mL_at, cpy_lt (by omega), f2.L (r2 + 1) (by omega)]; exact hR.2.2.1 k hk
  · show s6.2 (r1 + 2) k = _
    rw [show s6.2 = s4.2 from by rw [es6, es5]; rfl, es4, mL_at, cpy_lt (by omega), f3.L (r2 + 2) (by omega)]; exact hR.2.2.2.1 k hk
  · rw [mI_ne (by omega), es6, mI_ne (by omega), es5, mI_at, cpy_lt hx, f4.I (r2 + 3) (by omega)]; exact hR.2.2.2.2.1 x hx
  · rw [mI_ne (by omega), es6, mI_at, cpy_lt (by omega), f5.I (r2 + 4) (by omega)]; exact hR.2.2.2.2.2 x hx
  · rw [mI_at, upd_ne z, g6, es2, mI_at, upd_ne y, es1, mI_at, upd_ne x]
theorem c_copyDesk {d1 d2 : Nat} (H1 : Hd d1) (H2 : Hd d2) (hd : d1 + 10 < d2 ∨ d2 + 10 < d1) (hX : DX s d2 X) : ∃ s', fX2_copyFrom (M h s) (h + d1) (h + d2) = some (M h s') ∧ DX s' d1 X ∧ Fr (d1 + 1) (d1 + 10) s s' ∧ s'.1 (d1 + 1) 6 = s.1 (d1 + 1) 6 + 1 ∧ (∀ j, j ≠ 0 → j ≠ 1 → j ≠ 6 → s'.1 (d1 + 1) j = s.1 (d1 + 1) j) ∧ s'.1 (d1 + 6) = s.1 (d1 + 6) := by
  obtain ⟨hR, hP, hV⟩ := hX
  have b1 := H1.1
  have b2 := H2.1
  have gr : ∀ {d : Nat} {s0 : Mm} (H : Hd d), gR (M h s0) (h + d) 2 0 = some (h + (d + 1)) ∧ gR (M h s0) (h + d) 2 1 = some (h + (d + 7)) ∧ gR (M h s0) (h + d) 2 2 = some (h + (d + 8)) ∧ gR (M h s0) (h + d) 2 3 = some (h + (d + 9)) ∧ gR (M h s0) (h + d) 2 4 = some (h + (d + 10)) := fun {d s0} H => by
    have := H.1
    exact ⟨gR_M H.2.1 rfl (by omega) (by omega), gR_M H.2.1 rfl (by omega) (by omega), gR_M H.2.1 rfl (by omega) (by omega), gR_M H.2.1 rfl (by omega) (by omega), gR_M H.2.1 rfl (by omega) (by omega)⟩
  obtain ⟨s1, e1, a1, a2, a3, a4⟩ := c_copyRules (h := h) (s := s) H1.2.2.1 H2.2.2.1 (by omega) hV.1 hR
  obtain ⟨s2, es2⟩ : ∃ s2, s2 = mL s1 (d1 + 7) (va_cpy (s1.2 (d2 + 7)) (s1.2 (d1 + 7)) 0 0 6) := ⟨_, rfl⟩
  obtain ⟨s3, es3⟩ : ∃ s3, s3 = mL s2 (d1 + 8) (va_cpy (s2.2 (d2 + 8)) (s2.2 (d1 + 8)) 0 0 6) := ⟨_, rfl⟩
  obtain ⟨s4, es4⟩ : ∃ s4, s4 = mI s3 (d1 + 9) (va_cpy (s3.1 (d2 + 9)) (s3.1 (d1 + 9)) 0 0 6) := ⟨_, rfl⟩
  obtain ⟨s5, es5⟩ : ∃ s5, s5 = mI s4 (d1 + 10) (va_cpy (s4.1 (d2 + 10)) (s4.1 (d1 + 10)) 0 0 240) := ⟨_, rfl⟩
  have w2 : acL (M h s1) (h + (d2 + 7)) 0 (h + (d1 + 7)) 0 6 = some (M h s2) := by rw [es2]; exact cpL 6 H2.2.2.2.1 (by omega) H1.2.2.2.1 (by omega) (by decide) (by decide) (by decide) (by decide)
  have w3 : acL (M h s2) (h + (d2 + 8)) 0 (h + (d1 + 8)) 0 6 = some (M h s3) := by rw [es3]; exact cpL 6 H2.2.2.2.2.1 (by omega) H1.2.2.2.2.1 (by omega) (by decide) (by decide) (by decide) (by decide)
  have w4 : acI (M h s3) (h + (d2 + 9)) 0 (h + (d1 + 9)) 0 6 = some (M h s4) := by rw [es4]; exact cpI 6 H2.2.2.2.2.2.1 (by omega) H1.2.2.2.2.2.1 (by omega) (by decide) (by decide) (by decide) (by decide)
  have w5 : acI (M h s4) (h + (d2 + 10)) 0 (h + (d1 + 10)) 0 240 = some (M h s5) := by rw [es5]; exact cpI 240 H2.2.2.2.2.2.2 (by omega) H1.2.2.2.2.2.2 (by omega) (by decide) (by decide) (by decide) (by decide)
  have F1 : Fr (d1 + 1) (d1 + 10) s s1 := a2.mono (by omega) (by omega)
  have F5 : Fr (d1 + 1) (d1 + 10) s s5 := by rw [es5, es4, es3, es2]; exact (((F1.mL (by omega) (by omega)).mL (by omega) (by omega)).mI (by omega) (by omega)).mI (by omega) (by omega)
  have F15 : Fr (d1 + 7) (d1 + 10) s1 s5 := by rw [es5, es4, es3, es2]; exact (((Fr.rf.mL (by omega) (by omega)).mL (by omega) (by omega)).mI (by omega) (by omega)).mI (by omega) (by omega)
  refine ⟨s5, ?_, ⟨a1.fr F15 (by omega), fun q hq => ?_, hV⟩, F5, ?_, fun j x y z => ?_, ?_⟩
  · unfold fX2_copyFrom
    rw [(gr H1).1, sb, (gr H2).1, sb, rb_o H1.2.2.1, sb, e1, sb, (gr H2).2.1, sb, (gr H1).2.1, sb, w2, sb, (gr H2).2.2.1, sb, (gr H1).2.2.1, sb, w3, sb, (gr H2).2.2.2.1, sb, (gr H1).2.2.2.1, sb, w4, sb, (gr H2).2.2.2.2, sb, (gr H1).2.2.2.2, sb, w5, sb]
  · obtain ⟨p1, p2, p3, p4⟩ := hP q hq
    have h40 := (hV.2 q hq).2
    have t2 : s5.2 = s3.2 := by rw [es5, es4]; rfl
    refine ⟨?_, ?_, ?_, fun k hk => ?_⟩
    · rw [t2, es3, mL_ne (by omega), es2, mL_at, cpy_lt hq, a2.L (d2 + 7) (by omega)]; exact p1
    · rw [t2, es3, mL_at, cpy_lt hq, es2, mL_ne (by omega), a2.L (d2 + 8) (by omega)]; exact p2
    · rw [es5, mI_ne (by omega), es4, mI_at, cpy_lt hq, es3, es2]
      show s1.1 (d2 + 9) q = _
      rw [a2.I (d2 + 9) (by omega)]; exact p3
    · rw [es5, mI_at, cpy_lt (by omega), es4, mI_ne (by omega), es3, es2]
      show s1.1 (d2 + 10) (q * 40 + k) = _
      rw [a2.I (d2 + 10) (by omega)]; exact p4 k hk
  · rw [F15.I (d1 + 1) (by omega)]; exact a3
  · rw [F15.I (d1 + 1) (by omega)]; exact a4 j x y z
  · rw [F15.I (d1 + 6) (by omega), a2.I (d1 + 6) (by omega)]
theorem DX.fr {d lo hi : Nat} {s' : Mm} (hX : DX s d X) (hf : Fr lo hi s s') (hl : d + 10 < lo ∨ hi < d) : DX s' d X := by
  refine ⟨hX.1.fr hf (by omega), fun q hq => ?_, hX.2.2⟩
  rw [hf.L (d + 7) (by omega), hf.L (d + 8) (by omega), hf.I (d + 9) (by omega), hf.I (d + 10) (by omega)]
  exact hX.2.1 q hq
def X0 : Snap := (sys0 2, fun _ => ([], []))
/-- the class's acts: the ring -/
def ACT (s : Mm) (A : List Snap) : Prop := ∃ n : Nat, n < 20 ∧ s.1 24 1 = i32 (n : Int) ∧ s.1 24 2 = i32 (A.length : Int) ∧ A.length ≤ 20 ∧ ∀ j, j < A.length → DX s (26 + 11 * ((n + 19 - j) % 20)) (A.getD (A.length - 1 - j) X0)
theorem ACT.fr {lo hi : Nat} {s' : Mm} {A : List Snap} (hA : ACT s A) (hf : Fr lo hi s s') (hl : hi < 24 ∨ 245 < lo) : ACT s' A := by
  obtain ⟨n, h1, h2, h3, h4, h5⟩ := hA
  refine ⟨n, h1, by rw [hf.I 24 (by omega)]; exact h2, by rw [hf.I 24 (by omega)]; exact h3, h4, fun j hj => (h5 j hj).fr hf (by omega)⟩
def psh (A : List Snap) (X : Snap) : List Snap := if A.length = 20 then A.drop 1 ++ [X] else A ++ [X]
theorem psh_len {A : List Snap} (hA : A.length ≤ 20) : (psh A X).length = if A.length = 20 then 20 else A.length + 1 := by
  unfold psh
  by_cases c : A.length = 20
  · rw [if_pos c, if_pos c, List.length_append, List.length_drop, c]; rfl
  · rw [if_neg c, if_neg c, List.length_append]; rfl
theorem psh_0 {A : List Snap} (hA : A.length ≤ 20) : (psh A X).getD ((psh A X).length - 1) X0 = X := by
  rw [psh_len hA]
  unfold psh
  by_cases c : A.length = 20
  · rw [if_pos c, if_pos c]
    have : (A.drop 1).length = 19 := by rw [List.length_drop, c]
    have h9 := getD_app2 (l := A.drop 1) (d := X0) (x := X)
    rw [this] at h9
    exact h9
  · rw [if_neg c, if_neg c, Nat.add_sub_cancel, getD_app2]
theorem psh_j {A : List Snap} (hA : A.length ≤ 20) {j : Nat} (h1 : 1 ≤ j) (h2 : j < (psh A X).length) : (psh A X).getD ((psh A X).length - 1 - j) X0 = A.getD (A.length - j) X0 := by
  rw [psh_len hA] at h2 ⊢
  unfold psh
  by_cases c : A.length = 20
  · rw [if_pos c] at h2 ⊢
    rw [if_pos c, getD_app1 (by rw [List.length_drop, c]; omega), List.getD_eq_getElem?_getD, List.getD_eq_getElem?_getD, List.getElem?_drop, c]
    congr 2; omega
  · rw [if_neg c] at h2 ⊢
    rw [if_neg c, getD_app1 (by omega), show A.length + 1 - 1 - j = A.length - j by omega]
theorem c_keep {A : List Snap} (hX : DX s 2 X) (hA : ACT s A) : ∃ s', fX0_keep (M h s) (h + 24) (h + 2) = some (M h s') ∧ Fr 24 245 s s' ∧ ACT s' (psh A X) := by
  obtain ⟨n, h1, h2, h3, h4, h5⟩ := hA
  obtain ⟨s1, e1, a1, a2, -⟩ := c_copyDesk (h := h) (hd_ring n h1) hd2 (by omega) hX
  have g24 : s1.1 24 = s.1 24 := a2.I 24 (by omega)
  have eR : aR (M h s) (h + 25) (i32 (n : Int)) = some (h + (26 + 11 * n)) := by
    rw [aR_M (by omega) (by omega), tn0]
  have hO : isO (M h s) (h + (26 + 11 * n)) 2 = some () := isO_M (hd_ring n h1).2.1 (by omega)
  have hpl := psh_len (X := X) h4
  have fin2 : ∀ m : Nat, m < 20 → m = (n + 1) % 20 → ∃ s', fJX0_keep_m_35 (M h s1) (h + 24) (i32 (m : Int)) (h + 24) = some (M h s') ∧ Fr 24 245 s s' ∧ ACT s' (psh A X) := by
    intro m hm hmn
    obtain ⟨s2, es2⟩ : ∃ s2, s2 = mI s1 24 (upd (s1.1 24) 1 (i32 (m : Int))) := ⟨_, rfl⟩
    obtain ⟨s3, es3⟩ : ∃ s3, s3 = mI s2 24 (upd (s2.1 24) 2 (i32 ((psh A X).length : Int))) := ⟨_, rfl⟩
    have b2 : s2.1 24 2 = i32 (A.length : Int) := by rw [es2, mI_at, upd_ne (by decide), g24]; exact h3
    have F13 : Fr 24 24 s1 s3 := by rw [es3, es2]; exact (Fr.rf.mI (by decide) (by decide)).mI (by decide) (by decide)
    have F3 : Fr 24 245 s s3 := (a2.mono (by omega) (by omega)).tr (F13.mono (by decide) (by decide))
    refine ⟨s3, ?_, F3, m, hm, ?_, ?_, ?_, fun j hj => ?_⟩
    · unfold fJX0_keep_m_35
      have w2 : wrF (M h s1) (h + 24) 0 1 (.int (i32 (m : Int))) = some (M h s2) := by rw [w_24_1, es2]
      rw [w2, sb, g_24_2, sb, b2, show (20 : Int32) = i32 ((20 : Nat) : Int) from q20, q1, a32, show i32 ((A.length : Int) + 1) = i32 (((A.length + 1 : Nat)) : Int) from rfl, imin_of (by omega) (by omega), show min (A.length + 1) 20 = (psh A X).length by rw [hpl]; split <;> omega, w_24_2, ← es3, sb]
    · rw [es3, mI_at, upd_ne (by decide), es2, mI_at, upd_at]
    · rw [es3, mI_at, upd_at]
    · rw [hpl]; split <;> omega
    · by_cases c : j = 0
      · subst c
        simp only [Nat.sub_zero]
        rw [psh_0 h4, show (m + 19) % 20 = n by omega]
        exact a1.fr F13 (by omega)
      · have hjl : j < 20 ∧ j - 1 < A.length := by rw [hpl] at hj; split at hj <;> omega
        rw [psh_j h4 (by omega) hj, show (m + 19 - j) % 20 = (n + 19 - (j - 1)) % 20 by omega, show A.length - j = A.length - 1 - (j - 1) by omega]
        refine ((h5 (j - 1) hjl.2).fr a2 ?_).fr F13 (by omega)
        have : (n + 19 - (j - 1)) % 20 ≠ n := by omega
        omega
  unfold fX0_keep
  rw [g_24_0, sb, g_24_1, sb, h2, eR, sb, hO, sb, e1, sb, g_24_1, sb, g24, h2, q1, a32, q20]
  by_cases c : n = 19
  · rw [if_pos (by rw [le32 (by omega) (by omega) (by omega) (by omega)]; omega)]
    exact fin2 0 (by decide) (by omega)
  · rw [if_neg (by rw [le32 (by omega) (by omega) (by omega) (by omega)]; omega), sb, a32]
    exact fin2 (n + 1) (by omega) (by omega)
theorem c_giveBack {A : List Snap} (hA : ACT s A) (hne : A.length ≠ 0) : ∃ s', fX0_giveBack (M h s) (h + 24) (h + 2) = some (M h s') ∧ (∀ i, ¬ (3 ≤ i ∧ i ≤ 12) → i ≠ 24 → s'.1 i = s.1 i ∧ s'.2 i = s.2 i) ∧ ACT s' A.dropLast ∧ DX s' 2 (A.getD (A.length - 1) X0) ∧ s'.1 3 6 = s.1 3 6 + 1 ∧ (∀ j, j ≠ 0 → j ≠ 1 → j ≠ 6 → s'.1 3 j = s.1 3 j) ∧ s'.1 8 = s.1 8 ∧ s'.1 24 2 = i32 ((A.length - 1 : Nat) : Int) := by
  obtain ⟨n, h1, h2, h3, h4, h5⟩ := hA
  have fin2 : ∀ m : Nat, m < 20 → m = (n + 19) % 20 → ∃ s', fJX0_giveBack_m_27 (M h s) (h + 24) (h + 2) (i32 (m : Int)) (h + 24) = some (M h s') ∧ (∀ i, ¬ (3 ≤ i ∧ i ≤ 12) → i ≠ 24 → s'.1 i = s.1 i ∧ s'.2 i = s.2 i) ∧ ACT s' A.dropLast ∧ DX s' 2 (A.getD (A.length - 1) X0) ∧ s'.1 3 6 = s.1 3 6 + 1 ∧ (∀ j, j ≠ 0 → j ≠ 1 → j ≠ 6 → s'.1 3 j = s.1 3 j) ∧ s'.1 8 = s.1 8 ∧ s'.1 24 2 = i32 ((A.length - 1 : Nat) : Int) := by
    intro m hm hmn
    obtain ⟨s2, es2⟩ : ∃ s2, s2 = mI s 24 (upd (s.1 24) 1 (i32 (m : Int))) := ⟨_, rfl⟩
    obtain ⟨s3, es3⟩ : ∃ s3, s3 = mI s2 24 (upd (s2.1 24) 2 (i32 ((A.length - 1 : Nat) : Int))) := ⟨_, rfl⟩
    have b2 : s2.1 24 2 = i32 (A.length : Int) := by rw [es2, mI_at, upd_ne (by decide)]; exact h3
    have b1 : s3.1 24 1 = i32 (m : Int) := by rw [es3, mI_at, upd_ne (by decide), es2, mI_at, upd_at]
    have b3 : s3.1 24 2 = i32 ((A.length - 1 : Nat) : Int) := by rw [es3, mI_at, upd_at]
    have F3 : Fr 24 24 s s3 := by rw [es3, es2]; exact (Fr.rf.mI (by decide) (by decide)).mI (by decide) (by decide)
    have hX3 : DX s3 (26 + 11 * m) (A.getD (A.length - 1) X0) := by
      have := (h5 0 (by omega)).fr F3 (by omega)
      rw [Nat.sub_zero, Nat.sub_zero, show (n + 19) % 20 = m from hmn.symm] at this
      exact this
    obtain ⟨s4, e4, a1, a2, a3, a4, a5⟩ := c_copyDesk (h := h) (s := s3) hd2 (hd_ring m hm) (by omega) hX3
    have eR : aR (M h s3) (h + 25) (i32 (m : Int)) = some (h + (26 + 11 * m)) := by
      rw [aR_M (by omega) (by omega), tn0]
    refine ⟨s4, ?_, fun i hi h24 => ?_, ⟨m, hm, ?_, ?_, ?_, fun j hj => ?_⟩, a1, ?_, fun j x y z => ?_, ?_, ?_⟩
    · unfold fJX0_giveBack_m_27
      have w2 : wrF (M h s) (h + 24) 0 1 (.int (i32 (m : Int))) = some (M h s2) := by rw [w_24_1, es2]
      have w3 : wrF (M h s2) (h + 24) 0 2 (.int (i32 ((A.length : Int) - 1))) = some (M h s3) := by
        rw [w_24_2, es3, show ((A.length : Int) - 1) = ((A.length - 1 : Nat) : Int) by omega]
      rw [w2, sb, g_24_2, sb, b2, q1, s32, w3, sb, g_24_0, sb, g_24_1, sb, b1, eR, sb, o_2, sb, e4, sb]
    · rw [a2.I i (by omega), a2.L i (by omega), F3.I i (by omega), F3.L i (by omega)]; exact ⟨rfl, rfl⟩
    · rw [a2.I 24 (by omega)]; exact b1
    · rw [a2.I 24 (by omega), b3, List.length_dropLast]
    · rw [List.length_dropLast]; omega
    · rw [List.length_dropLast] at hj ⊢
      have := ((h5 (j + 1) (by omega)).fr F3 (by omega)).fr a2 (by omega)
      rw [show (m + 19 - j) % 20 = (n + 19 - (j + 1)) % 20 by omega]
      rw [show A.dropLast.getD (A.length - 1 - 1 - j) X0 = A.getD (A.length - 1 - (j + 1)) X0 by
        rw [List.getD_eq_getElem?_getD, List.getD_eq_getElem?_getD, List.getElem?_dropLast, if_pos (by omega)]
        congr 2; omega]
      exact this
    · rw [a3, F3.I 3 (by omega)]
    · rw [a4 j x y z, F3.I 3 (by omega)]
    · rw [a5, F3.I 8 (by omega)]
    · rw [a2.I 24 (by omega)]; exact b3
  unfold fX0_giveBack
  rw [g_24_2, sb, h3, if_neg (by rw [z32 (by omega)]; exact hne), g_24_1, sb, h2]
  by_cases c : n = 0
  · rw [if_pos (by rw [q0]; rw [le32 (by omega) (by omega) (by omega) (by omega)]; omega)]
    exact fin2 19 (by decide) (by omega)
  · rw [if_neg (by rw [q0]; rw [le32 (by omega) (by omega) (by omega) (by omega)]; omega), sb, q1, s32, show ((n : Int) - 1) = ((n - 1 : Nat) : Int) by omega]
    exact fin2 (n - 1) (by omega) (by omega)
end DK
