/-! CALLS that change: what they leave; feed, say, image, back, undo -/
section AC
variable {h : Nat} {s s' : Mm} {g g' : Gst} {N : Nat}
theorem KPc.fr {lo hi : Nat} {I : Option Snap} (hK : KPc s I) (hf : Fr lo hi s s') (hl : 23 < lo ∨ hi < 0 ∨ (0 < lo ∧ hi < 13)) : KPc s' I := by
  unfold KPc at *
  cases hI : I with
  | none => rw [hI] at hK; show s'.1 0 5 = 0; rw [hf.I 0 (by omega)]; exact hK
  | some Y => rw [hI] at hK; exact ⟨by rw [hf.I 0 (by omega)]; exact hK.1, hK.2.fr hf (by omega)⟩
theorem TPc.fr {lo hi : Nat} {B : List Nat} (hK : TPc s B) (hf : Fr lo hi s s') (hl : 1 < lo) : TPc s' B := by
  unfold TPc at *
  rw [hf.I 0 (by omega), hf.I 1 (by omega)]; exact hK
theorem SDc.fr {lo hi : Nat} {B : List Nat} (hK : SDc s B) (hf : Fr lo hi s s') (hl : 1 < lo) (h2 : hi < 307) : SDc s' B := by
  unfold SDc at *
  rw [hf.I 0 (by omega), hf.I 307 (by omega)]; exact hK
theorem CCH.fr {lo hi : Nat} {S : Sys} (hK : CCH s N S) (hf : Fr lo hi s s') (hl : (8 < lo ∧ hi < 256) ∨ 271 < lo) : CCH s' N S := by
  obtain ⟨ch, k1, k2, k3, k4, k5, k6, k7⟩ := hK
  exact ⟨ch, k1, by rw [hf.I 3 (by omega)]; exact k2, k3.fr hf (by omega), k4.fr hf (by omega), k5.fr hf (by omega), k6.fr hf (by omega), k7.fr hf (by omega)⟩
theorem CV.put {X : Snap} (hC : CV s N g) (hf : Fr 9 12 s s') (hX : DX s' 2 X) (he : X.1 = g.1.1) : CV s' N (X, g.2) := by
  obtain ⟨h1, h2, h3, h4, h5, h6, h7, a, b, h8⟩ := hC
  refine ⟨hX, h2.fr hf (by omega), h3.fr hf (by omega), h4.fr hf (by omega), by rw [hf.I 0 (by omega)]; exact h5, h6.fr hf (by omega) (by omega), ?_, a, b, h8.fr hf (by omega)⟩
  show CCH s' N X.1
  rw [he]
  exact h7.fr hf (by omega)
theorem CV.kp {A : List Snap} (hC : CV s N g) (hf : Fr 24 245 s s') (hA : ACT s' A) : CV s' N (g.1, A, g.2.2) := by
  obtain ⟨h1, h2, h3, h4, h5, h6, h7, a, b, h8⟩ := hC
  exact ⟨h1.fr hf (by omega), hA, h3.fr hf (by omega), h4.fr hf (by omega), by rw [hf.I 0 (by omega)]; exact h5, h6.fr hf (by omega) (by omega), h7.fr hf (by omega), a, b, h8.fr hf (by omega)⟩
theorem CV.tape {B : List Nat} (hC : CV s N g) (hF : FtC s s') (hT : TPc s' B) : CV s' N (g.1, g.2.1, g.2.2.1, B, g.2.2.2.2) := by
  obtain ⟨h1, h2, h3, h4, h5, h6, h7, a, b, h8⟩ := hC
  obtain ⟨f1, f2, f3⟩ := hF
  have hf : Fr 0 1 s s' := fun i hi => ⟨f2 i (by omega) (by omega), by rw [f1]⟩
  refine ⟨h1.fr hf (by omega), h2.fr hf (by omega), ?_, hT, by rw [f3 2 (by decide)]; exact h5, ?_, ?_, a, b, h8.fr hf (by omega)⟩
  · unfold KPc at *
    show (match g.2.2.1 with
      | none => s'.1 0 5 = 0
      | some Y => s'.1 0 5 = 1 ∧ DX s' 13 Y)
    cases hI : g.2.2.1 with
    | none => rw [hI] at h3; show s'.1 0 5 = 0; rw [f3 5 (by decide)]; exact h3
    | some Y => rw [hI] at h3; exact ⟨by rw [f3 5 (by decide)]; exact h3.1, h3.2.fr hf (by omega)⟩
  · unfold SDc at *
    rw [f3 19 (by decide), f2 307 (by decide) (by decide)]; exact h6
  · obtain ⟨ch, k1, k2, k3, k4, k5, k6, k7⟩ := h7
    exact ⟨ch, k1, by rw [hf.I 3 (by omega)]; exact k2, k3.fr hf (by omega), k4.fr hf (by omega), k5.fr hf (by omega), k6.fr hf (by omega), k7.fr hf (by omega)⟩
theorem CV.say {D : List Nat} (hC : CV s N g) (hF : SC s D s') : CV s' N (g.1, g.2.1, g.2.2.1, g.2.2.2.1, g.2.2.2.2.1, D) := by
  obtain ⟨h1, h2, h3, h4, h5, h6, h7, a, b, h8⟩ := hC
  obtain ⟨f1, f2, f3, f4, f5⟩ := hF
  have hf : ∀ i, i ≠ 0 → i ≠ 307 → s'.1 i = s.1 i ∧ s'.2 i = s.2 i := fun i h9 h10 => ⟨f2 i h9 h10, by rw [f1]⟩
  have e1 : Fr 0 0 s (mI s' 307 (s.1 307)) := fun i hi => ⟨by
    by_cases c : i = 307
    · subst c; rw [mI_at]
    · rw [mI_ne c]; exact f2 i (by omega) c, by show s'.2 i = s.2 i; rw [f1]⟩
  have e2 : Fr 307 307 (mI s' 307 (s.1 307)) s' := fun i hi => ⟨by rw [mI_ne (by omega)], rfl⟩
  refine ⟨(h1.fr e1 (by omega)).fr e2 (by omega), (h2.fr e1 (by omega)).fr e2 (by omega), ?_, ?_, by rw [f3 2 (by decide)]; exact h5, ⟨f4, f5⟩, ?_, a, b, (h8.fr e1 (by omega)).fr e2 (by omega)⟩
  · unfold KPc at *
    show (match g.2.2.1 with
      | none => s'.1 0 5 = 0
      | some Y => s'.1 0 5 = 1 ∧ DX s' 13 Y)
    cases hI : g.2.2.1 with
    | none => rw [hI] at h3; show s'.1 0 5 = 0; rw [f3 5 (by decide)]; exact h3
    | some Y => rw [hI] at h3; exact ⟨by rw [f3 5 (by decide)]; exact h3.1, (h3.2.fr e1 (by omega)).fr e2 (by omega)⟩
  · unfold TPc at *
    show s'.1 0 1 = _ ∧ _
    rw [f3 1 (by decide), f2 1 (by decide) (by decide)]; exact h4
  · obtain ⟨ch, k1, k2, k3, k4, k5, k6, k7⟩ := h7
    exact ⟨ch, k1, by rw [f2 3 (by decide) (by decide)]; exact k2, (k3.fr e1 (by omega)).fr e2 (by omega), (k4.fr e1 (by omega)).fr e2 (by omega), (k5.fr e1 (by omega)).fr e2 (by omega), (k6.fr e1 (by omega)).fr e2 (by omega), (k7.fr e1 (by omega)).fr e2 (by omega)⟩
/-- the rules changed: every cache is out of date -/
theorem CCH.bump {S S' : Sys} {N' : Nat} (hK : CCH s N S) (hc : ∀ i, 256 ≤ i → i ≤ 271 → s'.1 i = s.1 i) (h8 : s'.1 3 8 = s.1 3 8) (h6 : ∀ ch : Nat, ch ≤ N → s.1 3 6 = i32 (ch : Int) → ∃ ch' : Nat, ch < ch' ∧ ch' ≤ N' ∧ s'.1 3 6 = i32 (ch' : Int)) : CCH s' N' S' := by
  obtain ⟨ch, k1, k2, ⟨a1, ⟨z1, a2, a3⟩, c1, a4, a5, -⟩, ⟨b1, ⟨z2, b2, b3⟩, c2, b4, b5, -⟩, ⟨d1, ⟨z3, d2, d3⟩, c3, d4, d5, -⟩, ⟨c4, e1, e2, -⟩, ⟨c5, e3, e4, -⟩⟩ := hK
  obtain ⟨ch', m1, m2, m3⟩ := h6 ch k1 k2
  exact ⟨ch', m2, m3, ⟨by rw [hc 260 (by decide) (by decide)]; exact a1, ⟨z1, by rw [hc 260 (by decide) (by decide)]; exact a2, a3⟩, c1, by omega, by rw [hc 260 (by decide) (by decide)]; exact a5, fun h9 => absurd h9 (by omega)⟩, ⟨by rw [hc 264 (by decide) (by decide)]; exact b1, ⟨z2, by rw [hc 264 (by decide) (by decide)]; exact b2, b3⟩, c2, by omega, by rw [hc 264 (by decide) (by decide)]; exact b5, fun h9 => absurd h9 (by omega)⟩, ⟨by rw [hc 268 (by decide) (by decide)]; exact d1, ⟨z3, by rw [hc 268 (by decide) (by decide)]; exact d2, d3⟩, c3, by omega, by rw [hc 268 (by decide) (by decide)]; exact d5, fun h9 => absurd h9 (by omega)⟩, ⟨c4, by omega, by rw [hc 256 (by decide) (by decide)]; exact e2, fun h9 => absurd h9 (by omega)⟩, ⟨c5, by omega, by rw [h8]; exact e4, fun h9 => absurd h9 (by omega)⟩⟩
theorem inc32 {ch : Nat} {v w : Int32} (hv : v = i32 (ch : Int)) (hw : w = v + 1) : w = i32 ((ch + 1 : Nat) : Int) := by
  rw [hw, hv, q1, a32]; rfl
/-! the reference -/
theorem RV.put {X : Snap} {f : Nat → Int64} (hR : RV s g) (hX : RX f X) : RV (mL s 309 f) (X, g.2) := by
  obtain ⟨h1, h2, h3, h4, h5, h6⟩ := hR
  refine ⟨by show RX ((mL s 309 f).2 309) X; rw [mL_at]; exact hX, ?_, ?_, h4, h5, h6⟩
  · unfold ACR at *
    rw [mL_ne (by decide)]; exact h2
  · unfold KPr at *
    show (match g.2.2.1 with
      | none => s.1 308 4 = 0
      | some Y => s.1 308 4 = 1 ∧ RX ((mL s 309 f).2 311) Y)
    cases hI : g.2.2.1 with
    | none => rw [hI] at h3; exact h3
    | some Y => rw [hI] at h3; exact ⟨h3.1, by rw [mL_ne (by decide)]; exact h3.2⟩
theorem put_fr {f : Nat → Int64} : Fr 308 338 s (mL s 309 f) := Fr.rf.mL (by decide) (by decide)
theorem RV.kp {A : List Snap} (hR : RV s g) (h1 : ∀ i, i ≠ 308 → s'.1 i = s.1 i) (h2 : ∀ i, i ≠ 310 → s'.2 i = s.2 i) (h3 : ∀ j, j ≠ 5 → s'.1 308 j = s.1 308 j) (hA : ACR s' A) : RV s' (g.1, A, g.2.2) := by
  obtain ⟨k1, k2, k3, k4, k5, k6⟩ := hR
  refine ⟨by rw [h2 309 (by decide)]; exact k1, hA, ?_, ?_, by rw [h3 14 (by decide)]; exact k5, ?_⟩
  · unfold KPr at *
    show (match g.2.2.1 with
      | none => s'.1 308 4 = 0
      | some Y => s'.1 308 4 = 1 ∧ RX (s'.2 311) Y)
    cases hI : g.2.2.1 with
    | none => rw [hI] at k3; show s'.1 308 4 = 0; rw [h3 4 (by decide)]; exact k3
    | some Y => rw [hI] at k3; exact ⟨by rw [h3 4 (by decide)]; exact k3.1, by rw [h2 311 (by decide)]; exact k3.2⟩
  · unfold TPq at *
    show s'.1 308 7 = _ ∧ _
    rw [h3 7 (by decide), h1 312 (by decide)]; exact k4
  · unfold SDr at *
    show s'.1 308 41 = _ ∧ _
    rw [h3 41 (by decide), h1 324 (by decide)]; exact k6
theorem kp_fr (h1 : ∀ i, i ≠ 308 → s'.1 i = s.1 i) (h2 : ∀ i, i ≠ 310 → s'.2 i = s.2 i) : Fr 308 338 s s' := fun i hi => ⟨h1 i (by omega), h2 i (by omega)⟩
theorem RV.tape {B : List Nat} (hR : RV s g) (hF : FtR s s') (hT : TPq s' B) : RV s' (g.1, g.2.1, g.2.2.1, B, g.2.2.2.2) := by
  obtain ⟨k1, k2, k3, k4, k5, k6⟩ := hR
  obtain ⟨f1, f2, f3⟩ := hF
  refine ⟨by rw [f1]; exact k1, ?_, ?_, hT, by rw [f3 14 (by decide)]; exact k5, ?_⟩
  · unfold ACR at *
    rw [f3 5 (by decide), f1]; exact k2
  · unfold KPr at *
    show (match g.2.2.1 with
      | none => s'.1 308 4 = 0
      | some Y => s'.1 308 4 = 1 ∧ RX (s'.2 311) Y)
    cases hI : g.2.2.1 with
    | none => rw [hI] at k3; show s'.1 308 4 = 0; rw [f3 4 (by decide)]; exact k3
    | some Y => rw [hI] at k3; exact ⟨by rw [f3 4 (by decide)]; exact k3.1, by rw [f1]; exact k3.2⟩
  · unfold SDr at *
    show s'.1 308 41 = _ ∧ _
    rw [f3 41 (by decide), f2 324 (by decide) (by decide)]; exact k6
theorem RV.say {D : List Nat} (hR : RV s g) (hF : SR s D s') : RV s' (g.1, g.2.1, g.2.2.1, g.2.2.2.1, g.2.2.2.2.1, D) := by
  obtain ⟨k1, k2, k3, k4, k5, k6⟩ := hR
  obtain ⟨f1, f2, f3, f4⟩ := hF
  refine ⟨by rw [f1.L 309 (by decide) (by decide)]; exact k1, ?_, ?_, ?_, by rw [f1.2.1 14 (by decide)]; exact k5, f2, f3⟩
  · unfold ACR at *
    rw [f1.2.1 5 (by decide), f1.L 310 (by decide) (by decide)]; exact k2
  · unfold KPr at *
    show (match g.2.2.1 with
      | none => s'.1 308 4 = 0
      | some Y => s'.1 308 4 = 1 ∧ RX (s'.2 311) Y)
    cases hI : g.2.2.1 with
    | none => rw [hI] at k3; show s'.1 308 4 = 0; rw [f1.2.1 4 (by decide)]; exact k3
    | some Y => rw [hI] at k3; exact ⟨by rw [f1.2.1 4 (by decide)]; exact k3.1, by rw [f1.L 311 (by decide) (by decide)]; exact k3.2⟩
  · unfold TPq at *
    show s'.1 308 7 = _ ∧ _
    rw [f1.2.1 7 (by decide), f1.I 312 (by decide) (by decide)]; exact k4
/-! feed -/
theorem bt_app {B D : List Nat} (hB : ∀ j, bt B j < 256) (hD : ∀ x ∈ D, x < 256) (j : Nat) : bt (B ++ D) j < 256 := by
  unfold bt at *
  by_cases c : j < B.length
  · rw [List.getD_eq_getElem?_getD, List.getElem?_append_left c, ← List.getD_eq_getElem?_getD]; exact hB j
  · rw [List.getD_eq_getElem?_getD, List.getElem?_append_right (by omega)]
    cases e : D[j - B.length]? with
    | none => exact (by decide : (0 : Nat) < 256)
    | some x => exact hD x (List.mem_of_getElem? e)
theorem b4_lt (a : Int32) : ∀ x ∈ b4 a, x < 256 := by
  unfold b4
  intro x hx
  simp only [List.mem_cons, List.not_mem_nil, or_false] at hx
  rcases hx with rfl | rfl | rfl | rfl <;> exact byt_lt _ _
theorem b20_lt (a b c d e : Int32) : ∀ x ∈ b20 a b c d e, x < 256 := by
  unfold b20
  intro x hx
  simp only [List.mem_append] at hx
  rcases hx with (((hx | hx) | hx) | hx) | hx <;> exact b4_lt _ x hx
theorem b20_len (a b c d e : Int32) : (b20 a b c d e).length = 20 := rfl
theorem k0 {sx : Nat → Int32} {L : Nat} {i : Int32} {y : Nat → Int32} (hI : Inv s N g) (hN : N ≤ 900000) (hy : Sc5 sx L i y) : KOK h N (fK0 sx L (h + 0) (h + 308) (h + 339) i (M h s)) := by
  obtain ⟨y1, y2, y3, y4, y5⟩ := hy
  obtain ⟨o1, o2, o3, o4⟩ := hI.2.2.1
  unfold fK0
  simp only [y1, y2, y3, y4, y5, sb, o_0]
  obtain ⟨s1, e1, f1, t1⟩ := c_feed (h := h) hI.1.2.2.2.1 o1 (y 1) (y 2) (y 3) (y 4) (y 5)
  have hr1 : Fr 0 1 s s1 := fun i hi => ⟨f1.2.1 i (by omega) (by omega), by rw [f1.1]⟩
  have r1 : RV s1 g := hI.2.1.cls hr1 (by omega)
  obtain ⟨s2, e2, f2, t2⟩ := r_feed (h := h) r1.2.2.2.1 o1 (y 1) (y 2) (y 3) (y 4) (y 5)
  have c1 := hI.1.tape f1 t1
  have r2 := (rv_thr (k := 0) r1).tape f2 t2
  have hf2 : Fr 308 338 s1 s2 := (thr_fr (k := 0)).tr (fun i hi => ⟨f2.2.1 i (by omega) (by omega), congrFun f2.1 i⟩)
  refine ⟨s2, _, ?_, (c1.mono (by omega)).work hf2 (Or.inr (Or.inr (Or.inr (by decide)))), r2, ⟨?_, ?_, o3, o4⟩, by omega⟩
  · rw [e1, sb]
    simp only []
    rw [o_308, sb, e2, sb, if_pos rfl]
  · show (if g.2.2.2.1.length + 20 ≤ 300 then g.2.2.2.1 ++ b20 (y 1) (y 2) (y 3) (y 4) (y 5) else g.2.2.2.1).length ≤ 300
    split
    · rw [List.length_append, b20_len]; assumption
    · exact o1
  · show ∀ j, bt (if g.2.2.2.1.length + 20 ≤ 300 then g.2.2.2.1 ++ b20 (y 1) (y 2) (y 3) (y 4) (y 5) else g.2.2.2.1) j < 256
    split
    · exact bt_app o2 (b20_lt _ _ _ _ _)
    · exact o2
/-! say -/
theorem k23 {sx : Nat → Int32} {L : Nat} {i : Int32} (hI : Inv s N g) (hN : N ≤ 900000) : KOK h N (fK23 sx L (h + 0) (h + 308) (h + 339) i (M h s)) := by
  obtain ⟨o1, o2, o3, o4⟩ := hI.2.2.1
  obtain ⟨s1, e1, f1, l1⟩ := c_say (h := h) hI.1.ws hI.1.rs
  have hr1 : RV s1 g := by
    have e3 : Fr 0 0 s (mI s1 307 (s.1 307)) := fun i hi => ⟨by
      by_cases c : i = 307
      · subst c; rw [mI_at]
      · rw [mI_ne c]; exact f1.2.1 i (by omega) c, by show s1.2 i = s.2 i; rw [f1.1]⟩
    have e4 : Fr 307 307 (mI s1 307 (s.1 307)) s1 := fun i hi => ⟨by rw [mI_ne (by omega)], rfl⟩
    exact (hI.2.1.cls e3 (by omega)).cls e4 (by omega)
  obtain ⟨s2, e2, f2⟩ := r_say (h := h) hI.1.ws hr1.row
  have hf2 : Fr 308 338 s1 s2 := fun i hi => f2.1.1 i (by omega) (by omega)
  refine ⟨s2, _, ?_, ((hI.1.say f1).mono (by omega)).work hf2 (Or.inr (Or.inr (Or.inr (by decide)))), hr1.say f2, ⟨o1, o2, o3, l1⟩, by omega⟩
  unfold fK23
  rw [o_0, sb, e1, sb]
  simp only []
  rw [o_308, sb, e2, sb, if_pos rfl]
end AC
