/-! what is SAID, in the reference -/
/-- the reference's bytes said so far -/
def SR (s0 : Mm) (B : List Nat) (s' : Mm) : Prop := Rf [0, 41] [] 324 324 s0 s' ∧ s'.1 308 41 = i32 (B.length : Int) ∧ (∀ j, j < B.length → s'.1 324 j = i32 ((B.getD j 0 : Nat) : Int)) ∧ s'.1 308 0 = 0
theorem nar_byte {b : Nat} (hb : b < 128) : vp_nar .byte ((i32 (b : Int)).toInt8.toInt32) = i32 (b : Int) := by
  have h1 : (i32 (b : Int)).toInt8.toInt32 = i32 (b : Int) := by
    unfold i32
    rw [Int32.toInt8_ofInt]
    exact Int8.toInt32_ofInt (by show (-128 : Int) ≤ _; omega) (by show _ ≤ (127 : Int); omega)
  rw [h1]
  show (i32 (b : Int)).toInt8.toInt32 = _
  rw [h1]
section RF
variable {h : Nat} {s : Mm} {S : Sys} {w : List Nat}
theorem SR.rr {s0 s' : Mm} {B : List Nat} (hC : SR s0 B s') (hR : RR (s0.2 309) S) : RR (s'.2 309) S := hR.rf hC.1 (Or.inl (by decide))
theorem r_sign {s0 s' : Mm} {B : List Nat} (hC : SR s0 B s') (hl : B.length < 500) {b : Nat} (hb : b < 128) : ∃ s'' : Mm, fX12_says (M h s') (h + 308) (i32 (b : Int)) = some (M h s'') ∧ SR s0 (B ++ [b]) s'' := by
  obtain ⟨c1, c4, c5, c0⟩ := hC
  unfold fX12_says
  rw [g_308_40, sb, g_308_41, sb, c4, s_324 (by omega) (by omega), sb, tn0, nar_byte hb, g_308_41, sb, mI_ne (by decide), c4, q1, a32, w_308_41, sb]
  refine ⟨_, rfl, (c1.mI (by decide) (by decide) (by decide)).fI (by decide), by rw [mI_at, upd_at, List.length_append]; rfl, fun j hj => ?_, by rw [mI_at, upd_ne (by decide), mI_ne (by decide), c0]⟩
  rw [List.length_append, show [b].length = 1 from rfl] at hj
  rw [mI_ne (by decide), mI_at]
  by_cases c : j = B.length
  · subst c
    rw [upd_at, getD_app2]
  · rw [upd_ne c, getD_app1 (by omega)]
    exact c5 j (by omega)
theorem r_sayWord {s0 s' : Mm} {B : List Nat} (hC : SR s0 B s') (hw : Ww w) (hl : B.length + w.length ≤ 500) : ∃ s'' : Mm, fX12_saysWord (M h s') (h + 308) (i64 (r6 w : Int)) = some (M h s'') ∧ SR s0 (B ++ syW w) s'' := by
  have h16 := hw.1
  obtain ⟨y, k1, k2⟩ := loop_rel (F := fLX12_saysWord_2 (h + 308) (i64 (r6 w : Int))) (E := Empty) (fun (B : List Nat) k => .inl (B ++ [97 + w.getD k 0]))
    (fun B' k x => ∃ s'' : Mm, x = (i32 (k : Int), M h s'') ∧ SR s0 B' s'' ∧ B'.length = B.length + k) (fun B' y => ∃ s'' : Mm, y = M h s'' ∧ SR s0 B' s'') (fun e _ => e.elim) w.length (by
      rintro B' k x hk ⟨s1, rfl, h1, h2⟩
      have hlt := getD_lt hw.2 hk
      obtain ⟨s2, z1, z2⟩ := r_sign (h := h) h1 (by omega) (b := 97 + w.getD k 0) (by omega)
      unfold fLX12_saysWord_2
      rw [r_len hw, sb, if_neg (by rw [le32 (by omega) (by omega) (by omega) (by omega)]; omega), r_let hw hk, sb, ltr_of hk, o_308, sb, q97, a32, show ((97 : Int) + ((w.getD k 0 : Nat) : Int)) = ((97 + w.getD k 0 : Nat) : Int) from rfl, z1, sb, xlet_eq, q1, a32]
      exact ⟨_, rfl, _, rfl, s2, rfl, z2, by rw [List.length_append]; show B'.length + 1 = _; omega⟩) (by
      rintro B' x ⟨s1, rfl, h1, h2⟩
      unfold fLX12_saysWord_2
      rw [r_len hw, sb, if_pos (by rw [le32 (by omega) (by omega) (by omega) (by omega)]; omega)]
      exact ⟨_, rfl, s1, rfl, h1⟩) (a := B) (x := (0, M h s')) ⟨s', rfl, hC, by omega⟩
  have ef : ∀ (l : List Nat) (B : List Nat), l.foldl (fun (B : List Nat) x => B ++ [97 + x]) B = B ++ syW l := by
    intro l
    induction l with
    | nil => intro B; simp [syW]
    | cons x l ih => intro B; rw [List.foldl_cons, ih]; unfold syW; simp
  rw [walk_fold, fold_list (fun (B : List Nat) x => B ++ [97 + x]) 0 w, ef] at k2
  obtain ⟨s'', rfl, k3⟩ := k2
  refine ⟨s'', ?_, k3⟩
  unfold fX12_saysWord
  rw [k1, sb]
theorem r_say (hS : WfS S) (hR : RR (s.2 309) S) : ∃ s' : Mm, fX12_say (M h s) (h + 308) = some (i32 ((sy S).length : Int), M h s') ∧ SR s (sy S) s' := by
  have h12 := hS.2.1
  have hK := hS.1.2
  have h0 : SR s [] (mI (mI s 308 (upd (s.1 308) 0 0)) 308 (upd (upd (s.1 308) 0 0) 41 0)) := by
    refine ⟨?_, by rw [mI_at, upd_at]; rfl, fun j hj => absurd hj (by simp), by rw [mI_at, upd_ne (by decide), upd_at]⟩
    have := ((Rf.rf (s := s) (I := [0, 41]) (L := []) (lo := 324) (hi := 324)).fI (j := 0) (v := 0) (by decide)).fI (j := 41) (v := 0) (by decide)
    rw [mI_at] at this
    exact this
  obtain ⟨y, k1, k2⟩ := loop_rel (F := fLX12_say_12 (h + 308)) (E := Empty) (fun (B : List Nat) r => .inl (B ++ syR S r))
    (fun B r x => ∃ s' : Mm, x = (i32 (r : Int), M h s') ∧ SR s B s' ∧ B.length ≤ 34 * r) (fun B y => ∃ s' : Mm, y = M h s' ∧ SR s B s' ∧ B.length ≤ 34 * nr S) (fun e _ => e.elim) (nr S) (by
      rintro B r x hr ⟨s1, rfl, h1, h2⟩
      have hR1 := h1.rr hR
      have hl := (wl hS hr).1
      have hrr := (wr hS hr).1
      have hJ : ∀ (B : List Nat) (s1 : Mm), SR s B s1 → B.length ≤ 34 * r + 1 → ∃ s2 : Mm, fJX12_say_12_30 (M h s1) (h + 308) (i32 (r : Int)) = some (.inl (i32 ((r + 1 : Nat) : Int), M h s2)) ∧ SR s (B ++ syW (rl S r) ++ [62] ++ syW (rr S r)) s2 := by
        intro B s1 h1 h2
        obtain ⟨s2, a1, a2⟩ := r_sayWord (h := h) h1 (wl hS hr) (by omega)
        obtain ⟨s3, b1, b2⟩ := r_sign (h := h) a2 (by unfold syW; rw [List.length_append, List.length_map]; omega) (b := 62) (by decide)
        obtain ⟨s4, d1, d2⟩ := r_sayWord (h := h) b2 (wr hS hr) (by unfold syW; rw [List.length_append, List.length_append, List.length_map]; show B.length + (rl S r).length + 1 + _ ≤ 500; omega)
        refine ⟨s4, ?_, d2⟩
        have b1 : fX12_says _ _ 62 = _ := b1
        unfold fJX12_say_12_30
        rw [o_308, sb, r_left hS (h1.rr hR) hr, sb, sb, a1, sb, o_308, sb, b1, sb, o_308, sb, r_right hS (b2.rr hR) hr, sb, sb, d1, sb, xlet_eq, q1, a32]; rfl
      unfold fLX12_say_12
      rw [o_308, sb, r_rules hR1, sb, if_neg (by rw [le32 (by omega) (by omega) (by omega) (by omega)]; omega)]
      have hsl := syR_len hS hr
      by_cases c : r = 0
      · obtain ⟨s2, z1, z2⟩ := hJ B s1 h1 (by omega)
        rw [if_pos (by rw [q0]; rw [le32 (by omega) (by omega) (by omega) (by omega)]; omega), z1]
        refine ⟨_, rfl, _, rfl, s2, rfl, ?_, by rw [List.length_append]; omega⟩
        unfold syR
        rw [if_pos c, List.nil_append, ← List.append_assoc, ← List.append_assoc]
        exact z2
      · obtain ⟨s2, b1, b2⟩ := r_sign (h := h) h1 (by omega) (b := 44) (by decide)
        have b1 : fX12_says _ _ 44 = _ := b1
        obtain ⟨s3, z1, z2⟩ := hJ (B ++ [44]) s2 b2 (by rw [List.length_append]; show B.length + 1 ≤ _; omega)
        rw [if_neg (by rw [q0]; rw [le32 (by omega) (by omega) (by omega) (by omega)]; omega), sb, b1, sb, z1]
        refine ⟨_, rfl, _, rfl, s3, rfl, ?_, by rw [List.length_append]; omega⟩
        unfold syR
        rw [if_neg c, ← List.append_assoc, ← List.append_assoc, ← List.append_assoc]
        exact z2) (by
      rintro B x ⟨s1, rfl, h1, h2⟩
      have hR1 := h1.rr hR
      unfold fLX12_say_12
      rw [o_308, sb, r_rules hR1, sb, if_pos (by rw [le32 (by omega) (by omega) (by omega) (by omega)]; omega)]
      exact ⟨_, rfl, s1, rfl, h1, by omega⟩) (a := []) (x := (0, M h (mI (mI s 308 (upd (s.1 308) 0 0)) 308 (upd (upd (s.1 308) 0 0) 41 0)))) ⟨_, rfl, h0, by simp⟩
  have ef : ∀ (f : Nat → List Nat) (l : List Nat) (B : List Nat), l.foldl (fun (B : List Nat) x => B ++ f x) B = B ++ l.flatMap f := by
    intro f l
    induction l with
    | nil => intro B; simp
    | cons x l ih => intro B; rw [List.foldl_cons, ih, List.flatMap_cons, List.append_assoc]
  rw [walk_fold, ef, List.nil_append] at k2
  obtain ⟨s1, rfl, k3, k4⟩ := k2
  obtain ⟨s2, b1, b2⟩ := r_sign (h := h) k3 (by omega) (b := 47) (by decide)
  have b1 : fX12_says _ _ 47 = _ := b1
  obtain ⟨y, m1, m2⟩ := loop_rel (F := fLX12_say_68 (h + 308)) (E := Empty) (fun (B : List Nat) k => .inl (B ++ syL S k))
    (fun B k x => ∃ s' : Mm, x = (i32 (k : Int), M h s') ∧ SR s B s' ∧ B.length ≤ 34 * nr S + 1 + 2 * k) (fun B y => ∃ s' : Mm, y = M h s' ∧ SR s B s') (fun e _ => e.elim) S.1 (by
      rintro B k x hk ⟨s1, rfl, h1, h2⟩
      have hR1 := h1.rr hR
      obtain ⟨y, y1, y2, y3⟩ := hR1.2.2.2.1 k hk
      have hly : lrk S k = y := by rw [← y3]; exact lrk_of hS y1
      have hwt := hS.2.2.2.1 y (by omega)
      obtain ⟨s2, a1, a2⟩ := r_sign (h := h) h1 (by omega) (b := 97 + y) (by omega)
      obtain ⟨s3, d1, d2⟩ := r_sign (h := h) a2 (by rw [List.length_append]; show B.length + 1 < 500; omega) (b := 48 + S.2.2.1 y) (by omega)
      have hR2 := a2.rr hR
      have y2' : s2.2 309 (7 + k) = i64 (y : Int) := by
        obtain ⟨z, z1, z2, z3⟩ := hR2.2.2.2.1 k hk
        have : z = y := hS.2.2.2.2.2 z y z1 y1 (by rw [z3, y3])
        rw [z2, this]
      have e1 : ((7 : Int) + (k : Int)).toNat = 7 + k := by omega
      have e2 : ((2 : Int) + (y : Int)).toNat = 2 + y := by omega
      unfold fLX12_say_68
      rw [o_308, sb, r_letters hR1, sb, if_neg (by rw [le32 (by omega) (by omega) (by omega) (by omega)]; omega), g_308_1, sb, q7, a32, a_309 (by omega) (by omega), e1, sb, y2, toI, sb, q97, a32, show ((97 : Int) + (y : Int)) = ((97 + y : Nat) : Int) from rfl, a1, sb, g_308_1, sb, sb, a_309 (by omega) (by omega), e1, sb, y2', toI, q2, a32, a_309 (by omega) (by omega), e2, sb, hR2.2.2.1 y (by omega), toI, o_308, sb, q48, a32, show ((48 : Int) + (S.2.2.1 y : Int)) = ((48 + S.2.2.1 y : Nat) : Int) from rfl, d1, sb, xlet_eq, q1, a32]
      refine ⟨_, rfl, _, rfl, s3, rfl, ?_, by unfold syL; rw [List.length_append]; show B.length + 2 ≤ _; omega⟩
      unfold syL
      rw [hly]
      rw [List.append_assoc] at d2
      exact d2) (by
      rintro B x ⟨s1, rfl, h1, h2⟩
      have hR1 := h1.rr hR
      unfold fLX12_say_68
      rw [o_308, sb, r_letters hR1, sb, if_pos (by rw [le32 (by omega) (by omega) (by omega) (by omega)]; omega)]
      exact ⟨_, rfl, s1, rfl, h1⟩) (a := (List.range (nr S)).flatMap (syR S) ++ [47]) (x := (0, M h s2)) ⟨s2, rfl, b2, by rw [List.length_append]; show _ + 1 ≤ _; omega⟩
  rw [walk_fold, ef] at m2
  obtain ⟨s3, rfl, m3⟩ := m2
  refine ⟨s3, ?_, m3⟩
  unfold fX12_say
  rw [w_308_0, sb, w_308_41, sb, mI_at, k1, sb, o_308, sb, b1, sb, m1, sb, g_308_41, sb, m3.2.1]; rfl
end RF
