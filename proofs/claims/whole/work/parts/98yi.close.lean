/-! CALLS that change: close -/
section CL
variable {h : Nat} {s s' : Mm} {g g' : Gst} {N : Nat}
theorem end_wk {S : Sys} (hS : WfS S) {o : Ov} (ho : okO S o) : Wk S.1 (end1 S o) ∧ Wk S.1 (end2 S o) := by
  obtain ⟨l1, l2, l3⟩ := lay_ok hS ho.1 ho.2.1 ho.2.2.1 ho.2.2.2
  have one : ∀ x, okS S o.2.2.2 x → Wk S.1 (aft S o.2.2.2 x) := fun x hx => by
    have hD : dvOk S o.2.2.2 [x] := dvOk_snoc (c := []) ⟨l1, fun k hk => absurd hk (by show ¬ k < 0; omega)⟩ hx
    exact dvW_all hS hD
  exact ⟨runS_wk hS (one _ l2), runS_wk hS (one _ l3)⟩
theorem wg_0 {S : Sys} : wg S [] = 0 := rfl
theorem addU_ok {S : Sys} (hS : WfS S) {o : Ov} (ho : okO S o) (hne : ¬ end1 S o = end2 S o) : Wk S.1 (addU S o).1 ∧ Wk S.1 (addU S o).2 ∧ (addU S o).1 ≠ [] := by
  obtain ⟨w1, w2⟩ := end_wk hS ho
  unfold addU
  by_cases c : 0 < cmpS S (end1 S o) (end2 S o)
  · rw [if_pos c]
    refine ⟨w1, w2, fun e => ?_⟩
    have e : end1 S o = [] := e
    rw [e] at c hne
    have hn2 : end2 S o ≠ [] := fun h9 => hne h9.symm
    have := wg_pos hS (fun x hx => Nat.lt_of_lt_of_le (w2.2 x hx) hS.1.2) hn2
    unfold cmpS at c
    rw [wg_0, if_neg (by omega), if_neg (by omega)] at c
    omega
  · rw [if_neg c]
    refine ⟨w2, w1, fun e => c ?_⟩
    have e : end2 S o = [] := e
    rw [e] at hne ⊢
    have := wg_pos hS (fun x hx => Nat.lt_of_lt_of_le (w1.2 x hx) hS.1.2) hne
    unfold cmpS
    rw [wg_0, if_neg (by omega), if_pos (by omega)]
    decide
theorem aft_add {S : Sys} {u v w : List Nat} {x : Nat × Nat} (hx : x.2 < nr S) : aft (addRule S u v) w x = aft S w x := by
  unfold aft
  rw [(addRule_1 hx).1, (addRule_1 hx).2]
theorem okS_add {S : Sys} {u v w : List Nat} {x : Nat × Nat} (hx : okS S w x) : okS (addRule S u v) w x := by
  obtain ⟨h1, h2, h3⟩ := hx
  refine ⟨h1, by rw [addRule_nr]; omega, ?_⟩
  unfold fitR at *
  rw [(addRule_1 h2).1, (addRule_1 h2).2]
  exact h3
theorem dvW_add {S : Sys} {u v t : List Nat} {c : List (Nat × Nat)} (hD : dvOk S t c) : ∀ k, k ≤ c.length → dvW (addRule S u v) t (c.take k) = dvW S t (c.take k) := by
  intro k
  induction k with
  | zero => intro _; rfl
  | succ k ih =>
    intro hk
    rw [dvW_succ (by omega), dvW_succ (by omega), ih (by omega), aft_add (hD.2 k (by omega)).2.1]
theorem add_VX {X : Snap} (hV : VX X) {u v : List Nat} (hn : nr X.1 < 12) (hu : Wk X.1.1 u) (hv : Wk X.1.1 v) (hne : u ≠ []) : VX (addRule X.1 u v, X.2) ∧ ∀ q, q < 6 → nowP (addRule X.1 u v, X.2) q = nowP X q := by
  refine ⟨⟨addRule_wf hV.1 hn hu hv hne, fun q hq => ⟨⟨(hV.2 q hq).1.1, fun k hk => ?_⟩, (hV.2 q hq).2⟩⟩, fun q hq => ?_⟩
  · have hD := (hV.2 q hq).1
    show okS (addRule X.1 u v) (dvW (addRule X.1 u v) (X.2 q).1 ((X.2 q).2.take k)) _
    have hk : k < (X.2 q).2.length := hk
    rw [dvW_add hD k (by omega)]
    exact okS_add (hD.2 k hk)
  · have := dvW_add (u := u) (v := v) (hV.2 q hq).1 (X.2 q).2.length (Nat.le_refl _)
    rw [List.take_length] at this
    exact this
def clF : Nat → Sys → Sys × Nat
  | 0, S => (S, 0)
  | n + 1, S => if 12 ≤ nr S then (S, 0) else (match lo S with
    | none => (S, 0)
    | some k => ((clF n (addOv S (ovd (ovs S) k))).1, (clF n (addOv S (ovd (ovs S) k))).2 + 1))
theorem clF_le : ∀ (n : Nat) (S : Sys), (clF n S).2 ≤ n := by
  intro n
  induction n with
  | zero => intro S; exact Nat.le_refl _
  | succ n ih =>
    intro S
    unfold clF
    split
    · exact Nat.zero_le _
    · split
      · exact Nat.zero_le _
      · exact Nat.succ_le_succ (ih _)
theorem iter_fin {α β : Type} {F : α → Option (α ⊕ β)} {x : α} {y : β} (e : F x = some (.inr y)) : iterP F x = some y := iter_to 0 (fun _ => x) rfl (fun k hk => absurd hk (by omega)) e
theorem c_closeL : ∀ (n m : Nat) (s : Mm) (N : Nat) (g : Gst), m + n ≤ 10 → N + n ≤ 1000100 → CV s N g → ∃ b s', iterP (fLX11_close_60 (h + 0) (i32 ((m + n : Nat) : Int))) (i32 (m : Int), M h s) = some b ∧ (b = Sum.inl (i32 ((m + (clF n g.1.1).2 : Nat) : Int), M h s') ∨ (b = Sum.inr (M h s') ∧ (clF n g.1.1).2 = n)) ∧ CV s' (N + n) (((clF n g.1.1).1, g.1.2), g.2) ∧ (∀ gr, RV s gr → RV s' gr) := by
  intro n
  induction n with
  | zero =>
    intro m s N g hm hN hC
    refine ⟨Sum.inr (M h s), s, iter_fin ?_, Or.inr ⟨rfl, rfl⟩, hC, fun gr h9 => h9⟩
    unfold fLX11_close_60
    simp only []
    rw [if_pos (by rw [le32 (by omega) (by omega) (by omega) (by omega)]; omega)]
  | succ n ih =>
    intro m s N g hm hN hC
    have hV := hC.wf
    have h12 := hV.1.2.1
    by_cases c1 : 12 ≤ nr g.1.1
    · have e : clF (n + 1) g.1.1 = (g.1.1, 0) := by rw [clF, if_pos c1]
      rw [e]
      refine ⟨_, s, iter_fin ?_, Or.inl rfl, hC.mono (by omega), fun gr h9 => h9⟩
      unfold fLX11_close_60 fJX11_close_60_91
      simp only []
      rw [if_neg (by rw [le32 (by omega) (by omega) (by omega) (by omega)]; omega), g_0_3, sb, g_2_0, sb, g_3_1, sb, hC.rs.2.1, if_pos (by rw [q12]; rw [le32 (by omega) (by omega) (by omega) (by omega)]; omega), if_pos trivial]
      rfl
    · obtain ⟨s1, e1, f1, o1, o2, o3⟩ := c_leastOpen (h := h) hV.1 hC.rs (hC.ou (by omega))
      have k1 : CV s1 N g := hC.och f1 o1 o2
      cases hlo : lo g.1.1 with
      | none =>
        have e : clF (n + 1) g.1.1 = (g.1.1, 0) := by rw [clF, if_neg c1, hlo]
        rw [e]
        rw [hlo] at e1
        refine ⟨_, s1, iter_fin ?_, Or.inl rfl, k1.mono (by omega), fun gr h9 => h9.cls f1 (by omega)⟩
        unfold fLX11_close_60 fJX11_close_60_91
        simp only []
        rw [if_neg (by rw [le32 (by omega) (by omega) (by omega) (by omega)]; omega), g_0_3, sb, g_2_0, sb, g_3_1, sb, hC.rs.2.1, if_neg (by rw [q12]; rw [le32 (by omega) (by omega) (by omega) (by omega)]; omega), g_0_9, sb, o_256, sb, e1, sb, if_pos (show i32 (natO none) = -1 from by decide)]
        rfl
      | some k =>
        rw [hlo] at e1
        obtain ⟨hk, hne⟩ := o3 k hlo
        have hl := ovs_len hV.1
        obtain ⟨s2, e2, r2, hi2, z2, y2⟩ := c_addOv (h := h) hV.1 k1.rs o1 hk (show nr g.1.1 < 12 by omega)
        obtain ⟨t, ft1, ft2⟩ := split2 hi2
        obtain ⟨u1, u2, u3⟩ := addU_ok (o := ovd (ovs g.1.1) k) hV.1 (o1.2.2.1 _ (getD_mem hk)) hne
        obtain ⟨v1, v2⟩ := add_VX hV (show nr g.1.1 < 12 by omega) u1 u2 u3
        rw [← addOv_eq] at v1 v2
        have hX : DX s2 2 (addOv g.1.1 (ovd (ovs g.1.1) k), g.1.2) := by
          refine ⟨r2, fun q hq => ?_, v1⟩
          rw [v2 q hq, ft2.L (2 + 7) (by omega), ft1.L (2 + 7) (by omega), ft2.L (2 + 8) (by omega), ft1.L (2 + 8) (by omega), ft2.I (2 + 9) (by omega), ft1.I (2 + 9) (by omega), ft2.I (2 + 10) (by omega), ft1.I (2 + 10) (by omega)]
          exact k1.1.2.1 q hq
        have hcc : CCH s2 (N + 1) (addOv g.1.1 (ovd (ovs g.1.1) k)) := k1.2.2.2.2.2.2.1.bump (fun i x y => (hi2 i (by omega) (by omega)).1) (y2 8 (by decide) (by decide)) (fun ch x y => ⟨ch + 1, by omega, by omega, inc32 y z2⟩)
        have k2 : CV s2 (N + 1) ((addOv g.1.1 (ovd (ovs g.1.1) k), g.1.2), g.2) := ((k1.cw.fr ft1 (by omega)).fr ft2 (by omega)).cv hX hcc
        obtain ⟨b, s3, e3, b3, k3, r3⟩ := ih (m + 1) s2 (N + 1) _ (by omega) (by omega) k2
        have e : clF (n + 1) g.1.1 = ((clF n (addOv g.1.1 (ovd (ovs g.1.1) k))).1, (clF n (addOv g.1.1 (ovd (ovs g.1.1) k))).2 + 1) := by rw [clF, if_neg c1, hlo]
        rw [e]
        have hstep : fLX11_close_60 (h + 0) (i32 ((m + (n + 1) : Nat) : Int)) (i32 (m : Int), M h s) = some (Sum.inl (i32 ((m + 1 : Nat) : Int), M h s2)) := by
          unfold fLX11_close_60 fJX11_close_60_91
          simp only []
          rw [if_neg (by rw [le32 (by omega) (by omega) (by omega) (by omega)]; omega), g_0_3, sb, g_2_0, sb, g_3_1, sb, hC.rs.2.1, if_neg (by rw [q12]; rw [le32 (by omega) (by omega) (by omega) (by omega)]; omega), g_0_9, sb, o_256, sb, e1, sb]
          simp only []
          rw [show natO (some k) = (k : Int) from rfl, if_neg (by rw [show (-1 : Int32) = i32 (-1) from by decide]; rw [eq32 (by omega) (by omega) (by omega) (by omega)]; omega), g_0_9, sb, o_256, sb, e2, sb, xlet_eq, q1, a32]
          rfl
        refine ⟨b, s3, ?_, ?_, ?_, fun gr h9 => r3 gr (((h9.cls f1 (by omega)).cls ft1 (by omega)).cls ft2 (by omega))⟩
        · rw [iter_inl hstep, show m + (n + 1) = m + 1 + n by omega]
          exact e3
        · rcases b3 with b3 | ⟨b3, b4⟩
          · refine Or.inl ?_
            rw [b3]
            show Sum.inl (i32 ((m + 1 + (clF n (addOv g.1.1 (ovd (ovs g.1.1) k))).2 : Nat) : Int), M h s3) = Sum.inl (i32 ((m + ((clF n (addOv g.1.1 (ovd (ovs g.1.1) k))).2 + 1) : Nat) : Int), M h s3)
            rw [show m + 1 + (clF n (addOv g.1.1 (ovd (ovs g.1.1) k))).2 = m + ((clF n (addOv g.1.1 (ovd (ovs g.1.1) k))).2 + 1) by omega]
          · refine Or.inr ⟨b3, ?_⟩
            show (clF n (addOv g.1.1 (ovd (ovs g.1.1) k))).2 + 1 = n + 1
            have b4 : (clF n (addOv g.1.1 (ovd (ovs g.1.1) k))).2 = n := b4
            omega
        · rw [show N + (n + 1) = N + 1 + n by omega]
          exact k3
def clR (g : Gst) (a : Int) : Gst × Nat × Int := if 1 ≤ a ∧ a ≤ 10 then (if flS g.1.1 = nr g.1.1 then ((((clF a.toNat g.1.1).1, g.1.2), psh g.2.1 g.1, g.2.2), 0, ((clF a.toNat g.1.1).2 : Int)) else (g, 0, -1)) else (g, 1, 0)
theorem clR_b {a : Int} : (clR g a).2.1 ≤ 2 ∧ -2147483648 ≤ (clR g a).2.2 ∧ (clR g a).2.2 ≤ 2147483647 := by
  unfold clR
  split
  · split
    · have := clF_le a.toNat g.1.1
      simp only []; omega
    · simp only []; omega
  · simp only []; omega
theorem clR_ok (hk : okG g) {a : Int} : okG (clR g a).1 := by
  unfold clR
  split
  · split
    · exact hk
    · exact hk
  · exact hk
theorem kc_close (hI : Inv s N g) {a : Int} (a1 : -2147483648 ≤ a) (a2 : a ≤ 2147483647) : CA h N g (clR g a).1 (fL_close (M h s) (h + 0) (i32 a) (h + 339)) (clR g a).2.1 (clR g a).2.2 := by
  have hV := hI.1.wf
  have hN := hI.2.2.2
  have h12 := hV.1.2.1
  have hfl := flS_le (S := g.1.1)
  have hb := (clR_b (g := g) (a := a)).2
  unfold fL_close
  unfold clR at hb ⊢
  by_cases c1 : 1 ≤ a ∧ a ≤ 10
  · rw [if_pos c1] at hb ⊢
    by_cases c2 : flS g.1.1 = nr g.1.1
    · rw [if_pos c2] at hb ⊢
      obtain ⟨n, rfl⟩ := nat_of (show 0 ≤ a by omega)
      simp only [tn0] at hb ⊢
      obtain ⟨s1, e1, f1, k1⟩ := c_keepV (h := h) hI.1
      obtain ⟨b, s2, e2, b2, k2, r2⟩ := c_closeL (h := h) n 0 s1 N _ (by omega) (by omega) k1
      have e2' : iterP (fLX11_close_60 (h + 0) (i32 (n : Int))) (0, M h s1) = some b := by
        rw [Nat.zero_add] at e2
        exact e2
      refine lI0 hb ⟨s2, ?_, k2.mono (by omega), r2 _ (hI.2.1.cls f1 (by omega))⟩
      unfold fX11_close
      rw [if_neg (by rw [q1]; rw [lt32 (by omega) (by omega) (by omega) (by omega)]; omega), if_pos (by rw [q10]; rw [le32 (by omega) (by omega) (by omega) (by omega)]; omega), g_0_3, sb, g_2_0, sb, o_3, sb, c_falling hV.1 hI.1.rs, sb, sb, g_2_0, sb, g_3_1, sb, hI.1.rs.2.1, if_pos (by rw [le32 (by omega) (by omega) (by omega) (by omega)]; omega), g_0_6, sb, sb, o_24, sb, e1, sb, e2', sb]
      rcases b2 with rfl | ⟨rfl, b4⟩
      · simp only []
        rw [Nat.zero_add]
      · have b4 : (clF n g.1.1).2 = n := b4
        simp only []
        rw [b4]
    · rw [if_neg c2] at hb ⊢
      refine lI0 hb (hI.self ?_)
      unfold fX11_close
      rw [if_neg (by rw [q1]; rw [lt32 (by omega) (by omega) (by omega) (by omega)]; omega), if_pos (by rw [q10]; rw [le32 (by omega) (by omega) (by omega) (by omega)]; omega), g_0_3, sb, g_2_0, sb, o_3, sb, c_falling hV.1 hI.1.rs, sb, sb, g_2_0, sb, g_3_1, sb, hI.1.rs.2.1, if_neg (by rw [le32 (by omega) (by omega) (by omega) (by omega)]; omega)]
      rfl
  · rw [if_neg c1]
    refine lI1 (hI.self ?_)
    unfold fX11_close
    by_cases c3 : a < 1
    · rw [if_pos (by rw [q1]; rw [lt32 (by omega) (by omega) (by omega) (by omega)]; omega)]
    · rw [if_neg (by rw [q1]; rw [lt32 (by omega) (by omega) (by omega) (by omega)]; omega), if_neg (by rw [q10]; rw [le32 (by omega) (by omega) (by omega) (by omega)]; omega)]
theorem r_closeL : ∀ (n m : Nat) (s : Mm) (g : Gst), m + n ≤ 10 → RV s g → ∃ s', iterP (fLX12_close_56 (h + 308) (i32 ((m + n : Nat) : Int))) (i32 (m : Int), M h s) = some (i32 ((m + (clF n g.1.1).2 : Nat) : Int), M h s') ∧ Fr 308 338 s s' ∧ RV s' (((clF n g.1.1).1, g.1.2), g.2) ∧ s'.1 308 0 = s.1 308 0 := by
  intro n
  induction n with
  | zero =>
    intro m s g hm hR
    refine ⟨s, iter_fin ?_, Fr.rf, hR, rfl⟩
    unfold fLX12_close_56
    simp only []
    rw [if_pos (by rw [le32 (by omega) (by omega) (by omega) (by omega)]; omega)]
    rfl
  | succ n ih =>
    intro m s g hm hR
    have hV := hR.1.2.2
    have h12 := hV.1.2.1
    by_cases c1 : 12 ≤ nr g.1.1
    · have e : clF (n + 1) g.1.1 = (g.1.1, 0) := by rw [clF, if_pos c1]
      rw [e]
      refine ⟨s, iter_fin ?_, Fr.rf, hR, rfl⟩
      unfold fLX12_close_56
      simp only []
      rw [if_neg (by rw [le32 (by omega) (by omega) (by omega) (by omega)]; omega), o_308, sb, r_rules hR.row, sb, if_pos (by rw [q12]; rw [le32 (by omega) (by omega) (by omega) (by omega)]; omega)]
      rfl
    · obtain ⟨s1, f1, o3, e1⟩ := r_addsRule (h := h) hV.1 hR.row (show nr g.1.1 < 12 by omega)
      have r1 : RV s1 g := hR.rf f1 (by omega) (by decide) (by decide) (by decide) (by decide) (by decide)
      cases hlo : lo g.1.1 with
      | none =>
        rw [hlo] at e1
        have e1 : fX12_addsRule (M h s) (h + 308) = some (0, M h s1) := e1
        have e : clF (n + 1) g.1.1 = (g.1.1, 0) := by rw [clF, if_neg c1, hlo]
        rw [e]
        refine ⟨s1, iter_fin ?_, f1.to (by omega), r1, f1.2.1 0 (by decide)⟩
        unfold fLX12_close_56
        simp only []
        rw [if_neg (by rw [le32 (by omega) (by omega) (by omega) (by omega)]; omega), o_308, sb, r_rules hR.row, sb, if_neg (by rw [q12]; rw [le32 (by omega) (by omega) (by omega) (by omega)]; omega), sb, e1, sb, if_pos rfl]
        rfl
      | some k =>
        obtain ⟨hk, hne⟩ := o3 k hlo
        rw [hlo] at e1
        obtain ⟨f, ef⟩ : ∃ f, f = rowAdd (s1.2 309) (nr g.1.1) (addU g.1.1 (ovd (ovs g.1.1) k)).1 (addU g.1.1 (ovd (ovs g.1.1) k)).2 := ⟨_, rfl⟩
        have e1 : fX12_addsRule (M h s) (h + 308) = some (1, M h (mL s1 309 f)) := by rw [ef]; exact e1
        obtain ⟨u1, u2, u3⟩ := addU_ok (o := ovd (ovs g.1.1) k) hV.1 (mem_ovs (getD_mem hk)) hne
        obtain ⟨v1, v2⟩ := add_VX hV (show nr g.1.1 < 12 by omega) u1 u2 u3
        have hrow : RR f (addOv g.1.1 (ovd (ovs g.1.1) k)) := by rw [ef, addOv_eq]; exact r1.row.add (by omega) hV.1.1.2
        rw [← addOv_eq] at v1 v2
        have hfj : ∀ j, 36 ≤ j → f j = s1.2 309 j := fun j hj => by
          rw [ef]
          unfold rowAdd
          rw [updL_ne (by omega), updL_ne (by omega), updL_ne (by omega)]
        have hX : RX f (addOv g.1.1 (ovd (ovs g.1.1) k), g.1.2) := by
          refine ⟨hrow, fun q hq => ?_, v1⟩
          obtain ⟨⟨p1, p2, p3, p4⟩, p5⟩ := r1.1.2.1 q hq
          exact ⟨⟨by rw [hfj _ (by omega)]; exact p1, by rw [hfj _ (by omega)]; exact p2, fun j hj => by rw [hfj _ (by omega)]; exact p3 j hj, p4⟩, by rw [v2 q hq, hfj _ (by omega)]; exact p5⟩
        have r2 : RV (mL s1 309 f) ((addOv g.1.1 (ovd (ovs g.1.1) k), g.1.2), g.2) := r1.put hX
        obtain ⟨s3, e3, f3, r3, z3⟩ := ih (m + 1) (mL s1 309 f) _ (by omega) r2
        have e : clF (n + 1) g.1.1 = ((clF n (addOv g.1.1 (ovd (ovs g.1.1) k))).1, (clF n (addOv g.1.1 (ovd (ovs g.1.1) k))).2 + 1) := by rw [clF, if_neg c1, hlo]
        rw [e]
        have hstep : fLX12_close_56 (h + 308) (i32 ((m + (n + 1) : Nat) : Int)) (i32 (m : Int), M h s) = some (Sum.inl (i32 ((m + 1 : Nat) : Int), M h (mL s1 309 f))) := by
          unfold fLX12_close_56
          simp only []
          rw [if_neg (by rw [le32 (by omega) (by omega) (by omega) (by omega)]; omega), o_308, sb, r_rules hR.row, sb, if_neg (by rw [q12]; rw [le32 (by omega) (by omega) (by omega) (by omega)]; omega), sb, e1, sb, if_neg n10, xlet_eq, q1, a32]
          rfl
        refine ⟨s3, ?_, ((f1.to (by omega)).tr put_fr).tr f3, r3, z3.trans (f1.2.1 0 (by decide))⟩
        rw [iter_inl hstep, show m + (n + 1) = m + 1 + n by omega, e3]
        show some (i32 ((m + 1 + (clF n (addOv g.1.1 (ovd (ovs g.1.1) k))).2 : Nat) : Int), M h s3) = some (i32 ((m + ((clF n (addOv g.1.1 (ovd (ovs g.1.1) k))).2 + 1) : Nat) : Int), M h s3)
        rw [show m + 1 + (clF n (addOv g.1.1 (ovd (ovs g.1.1) k))).2 = m + ((clF n (addOv g.1.1 (ovd (ovs g.1.1) k))).2 + 1) by omega]
theorem kr_close (hR : RV s g) {a : Int} (a1 : -2147483648 ≤ a) (a2 : a ≤ 2147483647) : RA h s (clR g a).1 (fX12_close (M h s) (h + 308) (i32 a)) (clR g a).2.1 (clR g a).2.2 := by
  have hV := hR.1.2.2
  have h12 := hV.1.2.1
  have hR0 : RV (thr s 0) g := (rv_thr hR)
  unfold fX12_close clR
  rw [w_thr, sb, show (1 : Int64) = i64 1 from by decide, show (10 : Int64) = i64 10 from by decide, in64 a1 a2 (by omega) (by omega), sb, o_308, sb]
  by_cases c1 : 1 ≤ a ∧ a ≤ 10
  · rw [if_pos c1, if_pos c1, r_yes, sb, if_neg n10]
    have hloop : iterP (fLX12_close_26 (M h (thr s 0)) (h + 308) (i32 a)) 0 = some (match (List.range (nr g.1.1)).find? (fun r => decide (¬ 0 < cmpS g.1.1 (rl g.1.1 r) (rr g.1.1 r))) with | some k => Sum.inl () | none => Sum.inr ()) := by
      refine loop_find (fun r => decide (¬ 0 < cmpS g.1.1 (rl g.1.1 r) (rr g.1.1 r))) (fun k => i32 (k : Int)) (Sum.inr ()) (fun k => Sum.inl ()) (nr g.1.1) (fun k hk => ?_) ?_ rfl
      · unfold fLX12_close_26
        rw [o_308, sb, r_rules hR0.row, sb, if_neg (by rw [le32 (by omega) (by omega) (by omega) (by omega)]; omega), sb, r_doesFall hV.1 hR0.row hk, sb]
        by_cases c3 : 0 < cmpS g.1.1 (rl g.1.1 k) (rr g.1.1 k)
        · rw [if_pos c3, if_neg n10, if_neg (by rw [decide_eq_true_eq]; exact fun h9 => h9 c3), xlet_eq, q1, a32]
          rfl
        · rw [if_neg c3, if_pos rfl, if_pos (by rw [decide_eq_true_eq]; exact c3)]
      · unfold fLX12_close_26
        rw [o_308, sb, r_rules hR0.row, sb, if_pos (by rw [le32 (by omega) (by omega) (by omega) (by omega)]; omega)]
    simp only []
    rw [hloop, sb]
    cases e : (List.range (nr g.1.1)).find? (fun r => decide (¬ 0 < cmpS g.1.1 (rl g.1.1 r) (rr g.1.1 r))) with
    | some k =>
      have hk : k < nr g.1.1 := List.mem_range.1 (List.mem_of_find?_eq_some e)
      have hp := List.find?_some e
      rw [decide_eq_true_eq] at hp
      rw [if_neg (fun h9 => hp (flS_all.1 h9 k hk))]
      exact ra_ask hR rfl
    | none =>
      have hall : flS g.1.1 = nr g.1.1 := flS_all.2 (fun r hr => by
        have := List.find?_eq_none.1 e r (List.mem_range.2 hr)
        rw [decide_eq_true_eq, Classical.not_not] at this
        exact this)
      rw [if_pos hall]
      obtain ⟨n, rfl⟩ := nat_of (show 0 ≤ a by omega)
      simp only [tn0]
      obtain ⟨s1, e1, f1, r1, z2, z3, z4⟩ := r_keepV (h := h) hR0
      obtain ⟨s2, e2, f2, r2, y2⟩ := r_closeL (h := h) n 0 s1 _ (by omega) r1
      have e2' : iterP (fLX12_close_56 (h + 308) (i32 (n : Int))) (0, M h s1) = some (i32 ((clF n g.1.1).2 : Int), M h s2) := by
        rw [Nat.zero_add] at e2
        rw [Nat.zero_add] at e2
        exact e2
      rw [o_308, sb, e1, sb, e2', sb]
      refine ra_ans ((thr_fr (k := 0)).tr (f1.tr f2)) r2 ?_ rfl
      rw [y2, z2 0 (by decide)]
      exact thr_0
  · rw [if_neg c1, if_neg c1, r_nayt, sb, if_pos rfl]
    exact ra_exc hR (show (1 : Nat) ≠ 0 by decide) rfl
theorem k20 {sx : Nat → Int32} {L : Nat} {i : Int32} {y : Nat → Int32} (hI : Inv s N g) (hN : N ≤ 900000) (hy : Sc5 sx L i y) : KOK h N (fK20 sx L (h + 0) (h + 308) (h + 339) i (M h s)) := by
  obtain ⟨y1, y2, y3, y4, y5⟩ := hy
  obtain ⟨a, ea, a1, a2⟩ := i32_ex (y 1)
  rw [ea] at y1
  unfold fK20
  simp only [y1, sb]
  obtain ⟨v1, v2⟩ := clR_b (g := g) (a := a)
  exact kstd (h := h) (oR := fun σ => fX12_close σ (h + 308) (i32 a)) hN (clR_ok hI.2.2.1) v1 v2 (kc_close hI a1 a2) (fun s1 _ r1 => kr_close r1 a1 a2)
end CL
