/-! CALLS that change: tell -/
section TL
variable {h : Nat} {s s' : Mm} {g g' : Gst} {N : Nat}
abbrev tG (B : List Nat) (n K : Nat) : Prop := n ≤ 16 ∧ ∀ x ∈ B.take n, 97 ≤ x ∧ x < 97 + K
def tW (B : List Nat) (n : Nat) : List Nat := (B.take n).map (fun x => x - 97)
def tlR (g : Gst) (a b : Int) : Gst × Nat × Int := if (0 ≤ a ∧ a < 6) ∧ 0 ≤ b ∧ b ≤ g.2.2.2.1.length then (if tG g.2.2.2.1 b.toNat g.1.1.1 then ((begP g.1 a.toNat (tW g.2.2.2.1 b.toNat), psh g.2.1 g.1, g.2.2.1, [], g.2.2.2.2), 0, b) else ((g.1, g.2.1, g.2.2.1, [], g.2.2.2.2), 0, -1)) else (g, 1, 0)
theorem tlR_b {a b : Int} (hk : okG g) : (tlR g a b).2.1 ≤ 2 ∧ -2147483648 ≤ (tlR g a b).2.2 ∧ (tlR g a b).2.2 ≤ 2147483647 := by
  have := hk.1
  unfold tlR
  split
  · split
    · simp only []; omega
    · simp only []; omega
  · simp only []; omega
theorem tlR_ok (hk : okG g) {a b : Int} : okG (tlR g a b).1 := by
  obtain ⟨o1, o2, o3, o4⟩ := hk
  have hn : ∀ j, bt [] j < 256 := fun j => by unfold bt; exact (by decide : (0 : Nat) < 256)
  unfold tlR
  split
  · split
    · exact ⟨by show 0 ≤ 300; omega, hn, o3, o4⟩
    · exact ⟨by show 0 ≤ 300; omega, hn, o3, o4⟩
  · exact ⟨o1, o2, o3, o4⟩
theorem tW_wk {B : List Nat} {n K : Nat} (hG : tG B n K) : Wk K (tW B n) := by
  refine ⟨?_, fun x hx => ?_⟩
  · unfold tW
    rw [List.length_map, List.length_take]
    have := hG.1
    omega
  · unfold tW at hx
    obtain ⟨y, hy, e⟩ := List.mem_map.1 hx
    have := hG.2 y hy
    omega
theorem c_wordT {B : List Nat} {K n : Nat} (hK : K ≤ 5) (hB : B.length ≤ 300) (hb : ∀ j, bt B j < 256) (hT : ∀ j, j < B.length → s.1 1 j = i32 (bt B j : Int)) (h3 : s.1 3 0 = i32 (K : Int)) (hn : n ≤ B.length) : fX11_wordOnTape (M h s) (h + 0) (i32 (n : Int)) = some (if tG B n K then i64 (cw (tW B n) : Int) else -1) := by
  unfold fX11_wordOnTape
  by_cases c1 : n ≤ 16
  · rw [if_pos (by rw [q16]; rw [le32 (by omega) (by omega) (by omega) (by omega)]; omega)]
    have hloop : iterP (fLX11_wordOnTape_15 (M h s) (h + 0) (i32 (n : Int))) (0, 0) = some (match (List.range n).find? (fun k => decide (¬ (97 ≤ bt B k ∧ bt B k < 97 + K))) with | some k => Sum.inl () | none => Sum.inr (i64 (cw ((B.take n).map (fun x => (x - 97) % 5)) : Int))) := by
      refine loop_find (fun k => decide (¬ (97 ≤ bt B k ∧ bt B k < 97 + K))) (fun k => (i64 (cw ((B.take k).map (fun x => (x - 97) % 5)) : Int), i32 (k : Int))) (Sum.inr (i64 (cw ((B.take n).map (fun x => (x - 97) % 5)) : Int))) (fun k => Sum.inl ()) n (fun k hk => ?_) ?_ ?_
      · have hbk := hb k
        have hW : Ww ((B.take k).map (fun x => (x - 97) % 5)) := ⟨by rw [List.length_map, List.length_take]; omega, fun x hx => by
          obtain ⟨y, -, e⟩ := List.mem_map.1 hx
          have := Nat.mod_lt (y - 97) (show 0 < 5 by decide)
          omega⟩
        unfold fLX11_wordOnTape_15
        simp only []
        rw [if_neg (by rw [le32 (by omega) (by omega) (by omega) (by omega)]; omega), g_0_0, sb, a_1 (by omega) (by omega), sb, tn0, hT k (by omega), xlet_eq, show (97 : Int32) = i32 97 from by decide, s32]
        by_cases c2 : 97 ≤ bt B k
        · rw [if_neg (by rw [q0]; rw [lt32 (by omega) (by omega) (by omega) (by omega)]; omega), g_0_3, sb, g_2_0, sb, g_3_0, sb, h3]
          by_cases c3 : bt B k < 97 + K
          · have hlen : ((B.take k).map (fun x => (x - 97) % 5)).length < 16 := by rw [List.length_map, List.length_take]; omega
            have hs : (B.take (k + 1)).map (fun x => (x - 97) % 5) = (B.take k).map (fun x => (x - 97) % 5) ++ [(bt B k - 97) % 5] := by
              rw [List.take_succ, List.map_append, List.getElem?_eq_getElem (show k < B.length by omega)]
              unfold bt
              rw [List.getD_eq_getElem?_getD, List.getElem?_eq_getElem (show k < B.length by omega)]
              rfl
            have hm : (bt B k - 97) % 5 = bt B k - 97 := Nat.mod_eq_of_lt (by omega)
            rw [if_pos (by rw [lt32 (by omega) (by omega) (by omega) (by omega)]; omega), show i32 ((bt B k : Int) - 97) = i32 (((bt B k - 97 : Nat)) : Int) by rw [show ((bt B k : Int) - 97) = ((bt B k - 97 : Nat) : Int) by omega], c_longer hW (show bt B k - 97 < 5 by omega) hlen, sb, xlet_eq, q1, a32, if_neg (by rw [decide_eq_true_eq]; exact fun h9 => h9 ⟨c2, c3⟩), hs, hm]
            rfl
          · rw [if_neg (by rw [lt32 (by omega) (by omega) (by omega) (by omega)]; omega), if_pos (by rw [decide_eq_true_eq]; exact fun h9 => c3 h9.2)]
        · rw [if_pos (by rw [q0]; rw [lt32 (by omega) (by omega) (by omega) (by omega)]; omega), if_pos (by rw [decide_eq_true_eq]; exact fun h9 => c2 h9.1)]
      · unfold fLX11_wordOnTape_15
        simp only []
        rw [if_pos (by rw [le32 (by omega) (by omega) (by omega) (by omega)]; omega)]
      · refine Prod.ext ?_ rfl
        show (0 : Int64) = i64 (cw [] : Int)
        exact cw_nil.symm
    rw [hloop, sb]
    cases e : (List.range n).find? (fun k => decide (¬ (97 ≤ bt B k ∧ bt B k < 97 + K))) with
    | some k =>
      have hk : k < n := List.mem_range.1 (List.mem_of_find?_eq_some e)
      have hp := List.find?_some e
      rw [decide_eq_true_eq] at hp
      rw [if_neg (fun h9 => hp (by
        have : bt B k ∈ B.take n := by
          unfold bt
          rw [List.getD_eq_getElem?_getD, List.getElem?_eq_getElem (show k < B.length by omega)]
          exact List.mem_take_iff_getElem.2 ⟨k, by omega, rfl⟩
        exact h9.2 _ this))]
    | none =>
      have hall : ∀ x ∈ B.take n, 97 ≤ x ∧ x < 97 + K := fun x hx => by
        obtain ⟨k, hk, ex⟩ := List.mem_take_iff_getElem.1 hx
        have := List.find?_eq_none.1 e k (List.mem_range.2 (by omega))
        rw [decide_eq_true_eq, Classical.not_not] at this
        unfold bt at this
        rw [List.getD_eq_getElem?_getD, List.getElem?_eq_getElem (show k < B.length by omega), ex] at this
        exact this
      rw [if_pos ⟨c1, hall⟩]
      have hW : (B.take n).map (fun x => (x - 97) % 5) = tW B n := by
        unfold tW
        refine List.map_congr_left (fun x hx => ?_)
        have := hall x hx
        exact Nat.mod_eq_of_lt (by omega)
      simp only []
      rw [hW]
  · rw [if_neg (by rw [q16]; rw [le32 (by omega) (by omega) (by omega) (by omega)]; omega), if_neg (fun h9 => c1 h9.1)]
theorem c_needBytes {B : List Nat} (hT : TPc s B) (hB : B.length ≤ 300) {a : Int} (a1 : -2147483648 ≤ a) (a2 : a ≤ 2147483647) : fX11_needBytes (M h s) (h + 0) (i32 a) = some (if 0 ≤ a ∧ a ≤ B.length then Sum.inl () else Sum.inr xIAE, M h s) := by
  unfold fX11_needBytes
  by_cases c : a < 0
  · rw [if_pos (by rw [q0]; rw [lt32 (by omega) (by omega) (by omega) (by omega)]; omega), if_neg (by omega)]
  · rw [if_neg (by rw [q0]; rw [lt32 (by omega) (by omega) (by omega) (by omega)]; omega), g_0_1, sb, hT.1]
    by_cases c2 : a ≤ B.length
    · rw [if_pos (by rw [le32 (by omega) (by omega) (by omega) (by omega)]; omega), if_pos (by omega)]
    · rw [if_neg (by rw [le32 (by omega) (by omega) (by omega) (by omega)]; omega), if_neg (by omega)]
theorem kc_tell (hI : Inv s N g) {a b : Int} (a1 : -2147483648 ≤ a) (a2 : a ≤ 2147483647) (b1 : -2147483648 ≤ b) (b2 : b ≤ 2147483647) : CA h N g (tlR g a b).1 (fL_tell (M h s) (h + 0) (i32 a) (i32 b) (h + 339)) (tlR g a b).2.1 (tlR g a b).2.2 := by
  have hV := hI.1.wf
  have hk := hI.2.2.1
  have hT := hI.1.2.2.2.1
  have hb := (tlR_b hk (a := a) (b := b)).2
  unfold fL_tell
  unfold tlR at hb ⊢
  by_cases c1 : 0 ≤ a ∧ a < 6
  · have hpre : fX11_tell (M h s) (h + 0) (i32 a) (i32 b) = ((fX11_needBytes (M h s) (h + 0) (i32 b)).bind fun w22 => (match w22 with
      | (Sum.inl _, σ22) => (wrF σ22 (h + 0) 10 1 (.int (0))).bind fun σ27 => (isO σ27 (h + 0) 10).bind fun _ => (fX11_wordOnTape σ27 (h + 0) (i32 b)).bind fun w32 => if (lg_cmp w32 (-1)) = 0 then (some (Sum.inl (-1), σ27)) else ((gR σ27 (h + 0) 10 6).bind fun v47 => (gR σ27 (h + 0) 10 3).bind fun v51 => (isO σ27 v47 0).bind fun _ => (fX0_keep σ27 v47 v51).bind fun w54 => (gR w54 (h + 0) 10 3).bind fun v58 => (isO w54 v58 2).bind fun _ => (fX2_begin w54 v58 (i32 a) w32).bind fun w63 => some (Sum.inl (i32 b), w63))
      | (Sum.inr E22, σ22) => some (Sum.inr E22, σ22))) := by
      unfold fX11_tell
      rw [if_neg (by rw [q0]; rw [lt32 (by omega) (by omega) (by omega) (by omega)]; omega), if_pos (by rw [q6]; rw [lt32 (by omega) (by omega) (by omega) (by omega)]; omega), o_0, sb]
      rfl
    by_cases c2 : 0 ≤ b ∧ b ≤ g.2.2.2.1.length
    · rw [if_pos ⟨c1, c2⟩] at hb ⊢
      obtain ⟨q, rfl⟩ := nat_of c1.1
      obtain ⟨n, rfl⟩ := nat_of c2.1
      have hq : q < 6 := by omega
      simp only [tn0] at hb ⊢
      obtain ⟨s1, es1⟩ : ∃ s1, s1 = mI s 0 (upd (s.1 0) 1 0) := ⟨_, rfl⟩
      have f1 : FtC s s1 := by
        rw [es1]
        exact ⟨rfl, fun i x y => by rw [mI_ne x], fun j hj => by rw [mI_at, upd_ne hj]⟩
      have t1 : TPc s1 [] := by
        rw [es1]
        exact ⟨by rw [mI_at, upd_at]; rfl, fun j hj => absurd hj (by show ¬ j < 0; omega)⟩
      have k1 : CV s1 N (g.1, g.2.1, g.2.2.1, [], g.2.2.2.2) := hI.1.tape f1 t1
      have hf1 : Fr 0 0 s s1 := by rw [es1]; exact Fr.rf.mI (by decide) (by decide)
      have r1 : RV s1 g := hI.2.1.cls hf1 (by omega)
      have hw := c_wordT (h := h) (s := s1) (K := g.1.1.1) (n := n) hV.1.1.2 hk.1 hk.2.1 (fun j hj => by rw [hf1.I 1 (by decide)]; exact hT.2 j hj) (by rw [hf1.I 3 (by decide)]; exact hI.1.rs.1) (by omega)
      by_cases c3 : tG g.2.2.2.1 n g.1.1.1
      · rw [if_pos c3] at hb hw ⊢
        have hwk := tW_wk c3
        have hne : ¬ lg_cmp (i64 (cw (tW g.2.2.2.1 n) : Int)) (-1) = 0 := by
          have := cw_lt (hwk.ww hV.1.1.2)
          rw [cmp0, show (-1 : Int64) = i64 (-1) from by decide, eq64 (by omega) (by omega) (by omega) (by omega)]
          omega
        obtain ⟨s2, e2, f2, k2⟩ := c_keepV (h := h) k1
        obtain ⟨s3, e3, f3, d3⟩ := c_begin (h := h) k2.1 hq hwk
        have k3 : CV s3 N (begP g.1 q (tW g.2.2.2.1 n), psh g.2.1 g.1, g.2.2.1, [], g.2.2.2.2) := k2.put (f3.mono (by decide) (by decide)) d3 rfl
        refine lI0 hb ⟨s3, ?_, k3.mono (by omega), (r1.cls f2 (by omega)).cls f3 (by omega)⟩
        rw [hpre, c_needBytes hT hk.1 b1 b2, sb, if_pos c2]
        simp only []
        rw [w_0_1, sb, ← es1, o_0, sb, hw, sb, if_neg hne, g_0_6, sb, g_0_3, sb, o_24, sb, e2, sb, g_0_3, sb, o_2, sb, e3, sb]
      · rw [if_neg c3] at hb hw ⊢
        refine lI0 hb ⟨s1, ?_, k1.mono (by omega), r1⟩
        rw [hpre, c_needBytes hT hk.1 b1 b2, sb, if_pos c2]
        simp only []
        rw [w_0_1, sb, ← es1, o_0, sb, hw, sb, if_pos (by rw [cmp0])]
        rfl
    · rw [if_neg (fun h9 => c2 h9.2)]
      refine lI1 (hI.self ?_)
      rw [hpre, c_needBytes hT hk.1 b1 b2, sb, if_neg c2]
  · rw [if_neg (fun h9 => c1 h9.1)]
    refine lI1 (hI.self ?_)
    unfold fX11_tell
    by_cases c3 : a < 0
    · rw [if_pos (by rw [q0]; rw [lt32 (by omega) (by omega) (by omega) (by omega)]; omega)]
    · rw [if_neg (by rw [q0]; rw [lt32 (by omega) (by omega) (by omega) (by omega)]; omega), if_neg (by rw [q6]; rw [lt32 (by omega) (by omega) (by omega) (by omega)]; omega)]
theorem kr_tell (hR : RV s g) (hk : okG g) {a b : Int} (a1 : -2147483648 ≤ a) (a2 : a ≤ 2147483647) (b1 : -2147483648 ≤ b) (b2 : b ≤ 2147483647) : RA h s (tlR g a b).1 (fX12_tell (M h s) (h + 308) (i32 a) (i32 b)) (tlR g a b).2.1 (tlR g a b).2.2 := by
  have hV := hR.1.2.2
  have hR0 : RV (thr s 0) g := (rv_thr hR)
  have hT := hR0.2.2.2.1
  have hl := hk.1
  have hno : fJX12_tell_m_31 (M h (thr s 0)) (h + 308) (i32 a) (i32 b) (h + 308) = some (0, M h (thr s 1)) := by
    unfold fJX12_tell_m_31 fJX12_tell_m_32
    rw [o_308, sb, r_nayt, sb, if_pos rfl]
  unfold fX12_tell tlR
  rw [w_thr, sb, r_place6 a1 a2, sb]
  by_cases c1 : 0 ≤ a ∧ a < 6
  · rw [if_pos c1, if_neg n10, g_308_7, sb, hT.1, toL (show -2147483648 ≤ ((g.2.2.2.1.length : Nat) : Int) by omega) (by omega), show (0 : Int64) = i64 0 from by decide, in64 b1 b2 (by omega) (by omega), sb]
    by_cases c2 : 0 ≤ b ∧ b ≤ g.2.2.2.1.length
    · rw [if_pos c2, if_neg n10, if_pos ⟨c1, c2⟩]
      obtain ⟨q, rfl⟩ := nat_of c1.1
      obtain ⟨n, rfl⟩ := nat_of c2.1
      have hq : q < 6 := by omega
      simp only [tn0]
      obtain ⟨s1, es1⟩ : ∃ s1, s1 = mI (thr s 0) 308 (upd ((thr s 0).1 308) 7 0) := ⟨_, rfl⟩
      have f1 : FtR (thr s 0) s1 := by
        rw [es1]
        exact ⟨rfl, fun i x y => by rw [mI_ne x], fun j hj => by rw [mI_at, upd_ne hj]⟩
      have t1 : TPq s1 [] := by
        rw [es1]
        exact ⟨by rw [mI_at, upd_at]; rfl, fun j hj => absurd hj (by show ¬ j < 0; omega)⟩
      have r1 : RV s1 (g.1, g.2.1, g.2.2.1, [], g.2.2.2.2) := hR0.tape f1 t1
      have hf1 : Fr 308 338 s s1 := by rw [es1]; exact thr_fr.tr (Fr.rf.mI (by decide) (by decide))
      have z1 : s1.1 308 0 = 0 := by rw [es1, mI_at, upd_ne (by decide)]; exact thr_0
      have tp : TPr s1 g.2.2.2.1 := ⟨fun j hj => by rw [es1, mI_ne (by decide)]; exact hT.2 j hj, hk.1, hk.2.1⟩
      have row0 : aL (M h s1) (h + 309) 0 = some (i64 (g.1.1.1 : Int)) := by
        rw [q0, a_309 (by decide) (by decide)]
        exact congrArg some r1.row.1
      have hsl : slc g.2.2.2.1 (0, 1, n) = g.2.2.2.1.take n := rfl
      unfold fJX12_tell_m_32
      rw [o_308, sb, r_yes, sb, if_neg n10]
      simp only []
      rw [w_308_7, sb, ← es1]
      by_cases c4 : n ≤ 16
      · rw [if_neg (show ¬ (16 : Int32) < i32 (n : Int) by rw [q16]; rw [lt32 (by omega) (by omega) (by omega) (by omega)]; omega), g_308_1, sb, row0, sb, o_308, sb, show (0 : Int32) = i32 ((0 : Nat) : Int) from rfl, r_areL tp (Nat.zero_le _) (by omega) hV.1.1.2 hV.1.1.1, sb, hsl]
        by_cases c5 : ∀ x ∈ g.2.2.2.1.take n, 97 ≤ x ∧ x < 97 + g.1.1.1
        · have c3 : tG g.2.2.2.1 n g.1.1.1 := ⟨c4, c5⟩
          have hK5 := hV.1.1.2
          obtain ⟨s2, e2, f2, r2, z2, z3, z4⟩ := r_keepV (h := h) r1
          have tp2 : TPr s2 g.2.2.2.1 := ⟨fun j hj => by rw [z3 312 (by decide)]; exact tp.1 j hj, hk.1, hk.2.1⟩
          have hsp := r_spell (h := h) tp2 (a := 0) (e := n) (Nat.zero_le _) (by omega) (by omega) (fun x hx => by
            have := c5 x hx
            omega)
          obtain ⟨f, e4, hX⟩ := r_puts (h := h) r2.1 hq (tW_wk c3)
          have e4' : fX12_puts (M h s2) (h + 308) (i32 (q : Int)) (i64 (r6 ((slc g.2.2.2.1 (0, 1, n)).map (fun x => x - 97)) : Int)) = some (M h (mL s2 309 f)) := e4
          have r3 : RV (mL s2 309 f) (begP g.1 q (tW g.2.2.2.1 n), psh g.2.1 g.1, g.2.2.1, [], g.2.2.2.2) := r2.put hX
          rw [if_pos c5, if_neg (show ¬ (1 : Int32) = i32 ((0 : Nat) : Int) by decide), if_pos c3, sb, e2, sb, o_308, sb, hsp, sb, sb, e4', sb]
          refine ra_ans (hf1.tr (f2.tr put_fr)) r3 ?_ rfl
          show s2.1 308 0 = 0
          rw [z2 0 (by decide)]
          exact z1
        · rw [if_neg c5, if_pos (show (0 : Int32) = i32 ((0 : Nat) : Int) from rfl), if_neg (fun h9 => c5 h9.2)]
          exact ra_ans hf1 r1 z1 rfl
      · rw [if_pos (show (16 : Int32) < i32 (n : Int) by rw [q16]; rw [lt32 (by omega) (by omega) (by omega) (by omega)]; omega), if_neg (fun h9 => c4 h9.1)]
        exact ra_ans hf1 r1 z1 rfl
    · rw [if_neg c2, if_pos rfl, if_neg (fun h9 => c2 h9.2), hno]
      exact ra_exc hR (show (1 : Nat) ≠ 0 by decide) rfl
  · rw [if_neg c1, if_pos rfl, if_neg (fun h9 => c1 h9.1), hno]
    exact ra_exc hR (show (1 : Nat) ≠ 0 by decide) rfl
theorem k6 {sx : Nat → Int32} {L : Nat} {i : Int32} {y : Nat → Int32} (hI : Inv s N g) (hN : N ≤ 900000) (hy : Sc5 sx L i y) : KOK h N (fK6 sx L (h + 0) (h + 308) (h + 339) i (M h s)) := by
  obtain ⟨y1, y2, y3, y4, y5⟩ := hy
  obtain ⟨a, ea, a1, a2⟩ := i32_ex (y 1)
  obtain ⟨b, eb, b1, b2⟩ := i32_ex (y 2)
  rw [ea] at y1
  rw [eb] at y2
  unfold fK6
  simp only [y1, y2, sb]
  obtain ⟨v1, v2⟩ := tlR_b hI.2.2.1 (a := a) (b := b)
  exact kstd (h := h) (oR := fun σ => fX12_tell σ (h + 308) (i32 a) (i32 b)) hN (tlR_ok hI.2.2.1) v1 v2 (kc_tell hI a1 a2 b1 b2) (fun s1 _ r1 => kr_tell r1 hI.2.2.1 a1 a2 b1 b2)
end TL
