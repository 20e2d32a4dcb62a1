/-! THE INVARIANT -/
theorem i32_ex (x : Int32) : ∃ a : Int, x = i32 a ∧ -2147483648 ≤ a ∧ a ≤ 2147483647 := by
  refine ⟨x.toInt, ?_, ?_, ?_⟩
  · unfold i32; rw [Int32.ofInt_toInt]
  · have := Int32.le_toInt x
    omega
  · have := Int32.toInt_lt x
    omega
/-- a cache of what a word comes to -/
def RCH (s : Mm) (r : Nat) (b : Bool) (S : Sys) (ch : Nat) : Prop := s.1 r 1 = i32 (b32i b) ∧ (∃ z : Nat, s.1 r 4 = i32 (z : Int) ∧ z ≤ 200) ∧ ∃ c : Nat, c ≤ ch ∧ s.1 r 9 = i32 (c : Int) ∧ (c = ch → ¬ s.1 r 4 = 0 → ∃ v, Wk S.1 v ∧ RFull b S s r v)
def OCH (s : Mm) (S : Sys) (ch : Nat) : Prop := ∃ c : Nat, c ≤ ch ∧ s.1 256 6 = i32 (c : Int) ∧ (c = ch → OC s S (ovs S))
def LCH (s : Mm) (S : Sys) (ch : Nat) : Prop := ∃ c : Nat, c ≤ ch ∧ s.1 3 8 = i32 (c : Int) ∧ (c = ch → LW S (s.1 8))
def CCH (s : Mm) (N : Nat) (S : Sys) : Prop := ∃ ch : Nat, ch ≤ N ∧ s.1 3 6 = i32 (ch : Int) ∧ RCH s 260 false S ch ∧ RCH s 264 false S ch ∧ RCH s 268 true S ch ∧ OCH s S ch ∧ LCH s S ch
abbrev Gst : Type := Snap × List Snap × Option Snap × List Nat × Int × List Nat
def okG (g : Gst) : Prop := g.2.2.2.1.length ≤ 300 ∧ (∀ j, bt g.2.2.2.1 j < 256) ∧ (-1 ≤ g.2.2.2.2.1 ∧ g.2.2.2.2.1 ≤ 1000) ∧ g.2.2.2.2.2.length ≤ 430
def KPc (s : Mm) (I : Option Snap) : Prop := match I with
  | none => s.1 0 5 = 0
  | some Y => s.1 0 5 = 1 ∧ DX s 13 Y
def KPr (s : Mm) (I : Option Snap) : Prop := match I with
  | none => s.1 308 4 = 0
  | some Y => s.1 308 4 = 1 ∧ RX (s.2 311) Y
def SDc (s : Mm) (D : List Nat) : Prop := s.1 0 19 = i32 (D.length : Int) ∧ ∀ j, j < D.length → s.1 307 j = i32 ((D.getD j 0 : Nat) : Int)
def SDr (s : Mm) (D : List Nat) : Prop := s.1 308 41 = i32 (D.length : Int) ∧ ∀ j, j < D.length → s.1 324 j = i32 ((D.getD j 0 : Nat) : Int)
/-- the class, the reference -/
def CV (s : Mm) (N : Nat) (g : Gst) : Prop := DX s 2 g.1 ∧ ACT s g.2.1 ∧ KPc s g.2.2.1 ∧ TPc s g.2.2.2.1 ∧ s.1 0 2 = i32 g.2.2.2.2.1 ∧ SDc s g.2.2.2.2.2 ∧ CCH s N g.1.1 ∧ ∃ a b, AS s a b
def RV (s : Mm) (g : Gst) : Prop := RX (s.2 309) g.1 ∧ ACR s g.2.1 ∧ KPr s g.2.2.1 ∧ TPq s g.2.2.2.1 ∧ s.1 308 14 = i32 g.2.2.2.2.1 ∧ SDr s g.2.2.2.2.2
def Inv (s : Mm) (N : Nat) (g : Gst) : Prop := CV s N g ∧ RV s g ∧ okG g ∧ N ≤ 1000000
section IV
variable {h : Nat} {s : Mm} {g : Gst} {N : Nat}
theorem RFull.fr {lo hi r : Nat} {b : Bool} {S : Sys} {v : List Nat} {s' : Mm} (hF : RFull b S s r v) (hf : Fr lo hi s s') (hl : r + 3 < lo ∨ hi < r) : RFull b S s' r v := by
  unfold RFull RC at *
  rw [hf.I r (by omega), hf.I (r + 2) (by omega), hf.I (r + 3) (by omega), hf.L (r + 1) (by omega)]
  exact hF
theorem RCH.fr {lo hi r ch : Nat} {b : Bool} {S : Sys} {s' : Mm} (hF : RCH s r b S ch) (hf : Fr lo hi s s') (hl : r + 3 < lo ∨ hi < r) : RCH s' r b S ch := by
  obtain ⟨h1, ⟨z, h2, h3⟩, c, h4, h5, h6⟩ := hF
  refine ⟨by rw [hf.I r (by omega)]; exact h1, ⟨z, by rw [hf.I r (by omega)]; exact h2, h3⟩, c, h4, by rw [hf.I r (by omega)]; exact h5, fun a b => ?_⟩
  rw [hf.I r (by omega)] at b
  obtain ⟨v, v1, v2⟩ := h6 a b
  exact ⟨v, v1, v2.fr hf hl⟩
theorem OCH.fr {lo hi ch : Nat} {S : Sys} {s' : Mm} (hF : OCH s S ch) (hf : Fr lo hi s s') (hl : 259 < lo ∨ hi < 256) : OCH s' S ch := by
  obtain ⟨c, h4, h5, h6⟩ := hF
  exact ⟨c, h4, by rw [hf.I 256 (by omega)]; exact h5, fun a => (h6 a).fr hf hl⟩
theorem LCH.fr {lo hi ch : Nat} {S : Sys} {s' : Mm} (hF : LCH s S ch) (hf : Fr lo hi s s') (hl : 8 < lo ∨ hi < 3) : LCH s' S ch := by
  obtain ⟨c, h4, h5, h6⟩ := hF
  exact ⟨c, h4, by rw [hf.I 3 (by omega)]; exact h5, fun a => by rw [hf.I 8 (by omega)]; exact h6 a⟩
/-- the working cells of the class: runner, heads, drawings, reader -/
theorem CV.work {s' : Mm} (hC : CV s N g) {lo hi : Nat} (hf : Fr lo hi s s') (hl : (253 ≤ lo ∧ hi ≤ 255) ∨ (277 ≤ lo ∧ hi ≤ 306) ∨ (246 ≤ lo ∧ hi ≤ 252) ∨ (308 ≤ lo)) : CV s' N g := by
  obtain ⟨h1, h2, h3, h4, h5, h6, ⟨ch, k1, k2, k3, k4, k5, k6, k7⟩, a, b, h8⟩ := hC
  refine ⟨h1.fr hf (by omega), h2.fr hf (by omega), ?_, ?_, ?_, ?_, ⟨ch, k1, by rw [hf.I 3 (by omega)]; exact k2, k3.fr hf (by omega), k4.fr hf (by omega), k5.fr hf (by omega), k6.fr hf (by omega), k7.fr hf (by omega)⟩, a, b, ?_⟩
  · unfold KPc at *
    cases hI : g.2.2.1 with
    | none => rw [hI] at h3; show s'.1 0 5 = 0; rw [hf.I 0 (by omega)]; exact h3
    | some Y => rw [hI] at h3; exact ⟨by rw [hf.I 0 (by omega)]; exact h3.1, h3.2.fr hf (by omega)⟩
  · unfold TPc at *
    rw [hf.I 0 (by omega), hf.I 1 (by omega)]; exact h4
  · rw [hf.I 0 (by omega)]; exact h5
  · unfold SDc at *
    rw [hf.I 0 (by omega), hf.I 307 (by omega)]; exact h6
  · unfold AS at *
    rw [hf.I 272 (by omega)]; exact h8
theorem RV.cls {s' : Mm} (hR : RV s g) {lo hi : Nat} (hf : Fr lo hi s s') (hl : hi ≤ 307 ∨ 339 ≤ lo) : RV s' g := by
  obtain ⟨h1, h2, h3, h4, h5, h6⟩ := hR
  refine ⟨by rw [hf.L 309 (by omega)]; exact h1, ?_, ?_, ?_, by rw [hf.I 308 (by omega)]; exact h5, ?_⟩
  · unfold ACR at *
    rw [hf.I 308 (by omega), hf.L 310 (by omega)]; exact h2
  · unfold KPr at *
    cases hI : g.2.2.1 with
    | none => rw [hI] at h3; show s'.1 308 4 = 0; rw [hf.I 308 (by omega)]; exact h3
    | some Y => rw [hI] at h3; exact ⟨by rw [hf.I 308 (by omega)]; exact h3.1, by rw [hf.L 311 (by omega)]; exact h3.2⟩
  · unfold TPq at *
    rw [hf.I 308 (by omega), hf.I 312 (by omega)]; exact h4
  · unfold SDr at *
    rw [hf.I 308 (by omega), hf.I 324 (by omega)]; exact h6
/-- the working cells of the reference: all but its row, what is kept, the tape, what was said; the fields I -/
theorem RV.rf {s' : Mm} (hR : RV s g) {I L : List Nat} {lo hi : Nat} (hf : Rf I L lo hi s s') (hl : (313 ≤ lo ∧ hi ≤ 323) ∨ (325 ≤ lo ∧ hi ≤ 338) ∨ hi < lo) (h4 : 4 ∉ I) (h5 : 5 ∉ I) (h7 : 7 ∉ I) (h14 : 14 ∉ I) (h41 : 41 ∉ I) : RV s' g := by
  obtain ⟨h1, h2, h3, k4, k5, h6⟩ := hR
  refine ⟨by rw [hf.L 309 (by decide) (by omega)]; exact h1, ?_, ?_, ?_, by rw [hf.2.1 14 h14]; exact k5, ?_⟩
  · unfold ACR at *
    rw [hf.2.1 5 h5, hf.L 310 (by decide) (by omega)]; exact h2
  · unfold KPr at *
    cases hI : g.2.2.1 with
    | none => rw [hI] at h3; show s'.1 308 4 = 0; rw [hf.2.1 4 h4]; exact h3
    | some Y => rw [hI] at h3; exact ⟨by rw [hf.2.1 4 h4]; exact h3.1, by rw [hf.L 311 (by decide) (by omega)]; exact h3.2⟩
  · unfold TPq at *
    rw [hf.2.1 7 h7, hf.I 312 (by decide) (by omega)]; exact k4
  · unfold SDr at *
    rw [hf.2.1 41 h41, hf.I 324 (by decide) (by omega)]; exact h6
theorem Rf.to {I L : List Nat} {lo hi : Nat} {s' : Mm} (hf : Rf I L lo hi s s') (hl : (308 ≤ lo ∧ hi ≤ 338) ∨ hi < lo) : Fr 308 338 s s' := fun i hi' => hf.1 i (by omega) (by omega)
/-- both sides once more: the reference's part of a call that asks -/
theorem Inv.rf {s' : Mm} (hI : Inv s N g) {I L : List Nat} {lo hi : Nat} (hf : Rf I L lo hi s s') (hl : (313 ≤ lo ∧ hi ≤ 323) ∨ (325 ≤ lo ∧ hi ≤ 338) ∨ hi < lo) (h4 : 4 ∉ I) (h5 : 5 ∉ I) (h7 : 7 ∉ I) (h14 : 14 ∉ I) (h41 : 41 ∉ I) : Inv s' N g :=
  ⟨hI.1.work (hf.to (by omega)) (Or.inr (Or.inr (Or.inr (by decide)))), hI.2.1.rf hf hl h4 h5 h7 h14 h41, hI.2.2⟩
theorem Inv.work {s' : Mm} (hI : Inv s N g) {lo hi : Nat} (hf : Fr lo hi s s') (hl : (253 ≤ lo ∧ hi ≤ 255) ∨ (277 ≤ lo ∧ hi ≤ 306) ∨ (246 ≤ lo ∧ hi ≤ 252)) : Inv s' N g :=
  ⟨hI.1.work hf (by omega), hI.2.1.cls hf (by omega), hI.2.2⟩
theorem Inv.out {f : Nat → Int64} (hI : Inv s N g) : Inv (mL s 339 f) N g :=
  ⟨hI.1.work (lo := 339) (hi := 339) (Fr.rf.mL (by decide) (by decide)) (by omega), hI.2.1.cls (lo := 339) (hi := 339) (Fr.rf.mL (by decide) (by decide)) (by omega), hI.2.2⟩
theorem Inv.thr {v : Int32} (hI : Inv s N g) : Inv (mI s 308 (upd (s.1 308) 0 v)) N g :=
  hI.rf (I := [0]) (L := []) (lo := 1) (hi := 0) (Rf.rf.fI (by decide)) (by omega) (by decide) (by decide) (by decide) (by decide) (by decide)
/-- the end of a call: thrown alike, and the answers alike -/
theorem ktail {k : Nat} {w : Int32} {v : Int} (hk : k ≤ 2) (hv : -2147483648 ≤ v ∧ v ≤ 2147483647) (h0 : s.1 308 0 = i32 (k : Int)) (hw : k = 0 → w = i32 v ∧ s.2 339 0 = i64 v) : ((isO (M h s) (h + 308) 11).bind fun _ => (fX12_thrown (M h s) (h + 308)).bind fun w1 => if w1 = i32 (k : Int) then (if i32 (k : Int) = 0 then ((aL (M h s) (h + 339) 0).bind fun v1 => if (lg_cmp v1 w.toInt64) = 0 then (some (M h s)) else (none)) else (some (M h s))) else (none)) = some (M h s) := by
  unfold fX12_thrown
  rw [o_308, sb, g_308_0, sb, sb, h0, if_pos rfl]
  by_cases c : k = 0
  · obtain ⟨w1, w2⟩ := hw c
    have ea : aL (M h s) (h + 339) 0 = some (i64 v) := by
      rw [q0, a_339 (by decide) (by decide)]
      exact congrArg some w2
    rw [if_pos (by rw [z32 (by omega)]; exact c), ea, sb, w1, toL hv.1 hv.2, if_pos (by rw [cmp0])]
  · rw [if_neg (by rw [z32 (by omega)]; exact c)]
theorem s_out {v : Int} (hv : -2147483648 ≤ v ∧ v ≤ 2147483647) : sL (M h s) (h + 339) 0 (i32 v).toInt64 = some (M h (mL s 339 (vp_updL (s.2 339) 0 (i64 v)))) := by
  rw [toL hv.1 hv.2, q0, s_339 (by decide) (by decide)]; rfl
theorem r_place6 {a : Int} (h1 : -2147483648 ≤ a) (h2 : a ≤ 2147483647) : fX12_isPlace (i32 a) = some (if 0 ≤ a ∧ a < 6 then 1 else 0) := by
  unfold fX12_isPlace
  rw [toL h1 h2, show (0 : Int64) = i64 0 from by decide, show (5 : Int64) = i64 5 from by decide, r_isIn (by omega) (by omega) (by omega), sb, zok01, sb]
  by_cases c : 0 ≤ a ∧ a < 6
  · rw [if_pos c, if_pos (by omega)]
  · rw [if_neg c, if_neg (by omega)]
theorem r_isRule {S : Sys} (hS : WfS S) (hR : RR (s.2 309) S) {a : Int} (h1 : -2147483648 ≤ a) (h2 : a ≤ 2147483647) : fX12_isRule (M h s) (h + 308) (i32 a) = some (if 0 ≤ a ∧ a < nr S then 1 else 0) := by
  have := hS.2.1
  unfold fX12_isRule
  rw [o_308, sb, r_rules hR, sb, toL h1 h2, q1, s32, toL (by omega) (by omega), show (0 : Int64) = i64 0 from by decide, r_isIn (by omega) (by omega) (by omega), sb, zok01, sb]
  by_cases c : 0 ≤ a ∧ a < nr S
  · rw [if_pos c, if_pos (by omega)]; rfl
  · rw [if_neg c, if_neg (by omega)]
theorem c_needP {a : Int} (h1 : -2147483648 ≤ a) (h2 : a ≤ 2147483647) : fX11_needPlace (M h s) (i32 a) = some (if 0 ≤ a ∧ a < 6 then Sum.inl () else Sum.inr xNSE, M h s) := by
  unfold fX11_needPlace
  rw [q0, q6]
  by_cases c : a < 0
  · rw [if_pos (by rw [lt32 (by omega) (by omega) (by omega) (by omega)]; omega), if_neg (by omega)]
  · rw [if_neg (by rw [lt32 (by omega) (by omega) (by omega) (by omega)]; omega)]
    by_cases c2 : a < 6
    · rw [if_pos (by rw [lt32 (by omega) (by omega) (by omega) (by omega)]; omega), if_pos (by omega)]
    · rw [if_neg (by rw [lt32 (by omega) (by omega) (by omega) (by omega)]; omega), if_neg (by omega)]
theorem c_needI {a : Int} (h1 : -2147483648 ≤ a) (h2 : a ≤ 2147483647) : fX11_needIndex (M h s) (i32 a) = some (if 0 ≤ a then Sum.inl () else Sum.inr xNSE, M h s) := by
  unfold fX11_needIndex
  rw [q0]
  by_cases c : 0 ≤ a
  · rw [if_pos (by rw [le32 (by omega) (by omega) (by omega) (by omega)]; omega), if_pos c]
  · rw [if_neg (by rw [le32 (by omega) (by omega) (by omega) (by omega)]; omega), if_neg c]
theorem c_needB {a b : Int} (h1 : -2147483648 ≤ a) (h2 : a ≤ 2147483647) (h3 : -2147483648 ≤ b) (h4 : b ≤ 2147483647) : fX11_needBelow (M h s) (i32 a) (i32 b) = some (if 0 ≤ a ∧ a < b then Sum.inl () else Sum.inr xNSE, M h s) := by
  unfold fX11_needBelow
  rw [q0]
  by_cases c : a < 0
  · rw [if_pos (by rw [lt32 (by omega) (by omega) (by omega) (by omega)]; omega), if_neg (by omega)]
  · rw [if_neg (by rw [lt32 (by omega) (by omega) (by omega) (by omega)]; omega)]
    by_cases c2 : a < b
    · rw [if_pos (by rw [lt32 (by omega) (by omega) (by omega) (by omega)]; omega), if_pos (by omega)]
    · rw [if_neg (by rw [lt32 (by omega) (by omega) (by omega) (by omega)]; omega), if_neg (by omega)]
theorem c_needW {a b : Int} (h1 : -2147483648 ≤ a) (h2 : a ≤ 2147483647) (h3 : -2147483648 ≤ b) (h4 : b ≤ 2147483647) : fX11_needWhat (M h s) (i32 a) (i32 b) = some (if 0 ≤ a ∧ a ≤ b then Sum.inl () else Sum.inr xNSE, M h s) := by
  unfold fX11_needWhat
  rw [q0]
  by_cases c : a < 0
  · rw [if_pos (by rw [lt32 (by omega) (by omega) (by omega) (by omega)]; omega), if_neg (by omega)]
  · rw [if_neg (by rw [lt32 (by omega) (by omega) (by omega) (by omega)]; omega)]
    by_cases c2 : a ≤ b
    · rw [if_pos (by rw [le32 (by omega) (by omega) (by omega) (by omega)]; omega), if_pos (by omega)]
    · rw [if_neg (by rw [le32 (by omega) (by omega) (by omega) (by omega)]; omega), if_neg (by omega)]
theorem c_needY {a : Int} (h1 : -2147483648 ≤ a) (h2 : a ≤ 2147483647) : fX11_needWay (M h s) (i32 a) = some (if 0 ≤ a ∧ a ≤ 2 then Sum.inl () else Sum.inr xIAE, M h s) := by
  unfold fX11_needWay
  rw [q0, q2]
  by_cases c : a < 0
  · rw [if_pos (by rw [lt32 (by omega) (by omega) (by omega) (by omega)]; omega), if_neg (by omega)]
  · rw [if_neg (by rw [lt32 (by omega) (by omega) (by omega) (by omega)]; omega)]
    by_cases c2 : a ≤ 2
    · rw [if_pos (by rw [le32 (by omega) (by omega) (by omega) (by omega)]; omega), if_pos (by omega)]
    · rw [if_neg (by rw [le32 (by omega) (by omega) (by omega) (by omega)]; omega), if_neg (by omega)]
theorem c_needR {S : Sys} (hS : WfS S) (hR : RS s 3 S) {a : Int} (h1 : -2147483648 ≤ a) (h2 : a ≤ 2147483647) : fX11_needRule (M h s) (h + 0) (i32 a) = some (if 0 ≤ a ∧ a < nr S then Sum.inl () else Sum.inr xNSE, M h s) := by
  have := hS.2.1
  unfold fX11_needRule
  rw [q0]
  by_cases c : a < 0
  · rw [if_pos (by rw [lt32 (by omega) (by omega) (by omega) (by omega)]; omega), if_neg (by omega)]
  · rw [if_neg (by rw [lt32 (by omega) (by omega) (by omega) (by omega)]; omega), g_0_3, sb, g_2_0, sb, g_3_1, sb, hR.2.1]
    by_cases c2 : a < nr S
    · rw [if_pos (by rw [lt32 (by omega) (by omega) (by omega) (by omega)]; omega), if_pos (by omega)]
    · rw [if_neg (by rw [lt32 (by omega) (by omega) (by omega) (by omega)]; omega), if_neg (by omega)]
end IV
