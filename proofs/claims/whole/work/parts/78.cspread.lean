/-! REACH in the class, whole, and kept while the rules are the same -/
def nmS (S : Sys) (X : RLs) : Nat := (X.filter (fun y => decide (stps S y.1 = []))).length
def enS (S : Sys) (X : RLs) : Int := match X.find? (fun y => decide (stps S y.1 = [])) with
  | some y => (y.2 : Int)
  | none => -1
def lpS (b : Bool) (S : Sys) (v : List Nat) (X : RLs) : Int := match X.find? (fun y => decide (v ∈ nxt b S y.1)) with
  | some y => (y.2 : Int) + 1
  | none => -1
theorem take_lnk {L : RLs} {k : Nat} (hk : k < L.length) : L.take (k + 1) = L.take k ++ [lnk L k] := by
  rw [List.take_succ_eq_append_getElem hk]
  unfold lnk
  rw [List.getD_eq_getElem?_getD, List.getElem?_eq_getElem hk]; rfl
theorem nmS_snoc {S : Sys} {X : RLs} {y : List Nat × Nat} : nmS S (X ++ [y]) = nmS S X + (if stps S y.1 = [] then 1 else 0) := by
  unfold nmS
  rw [List.filter_append, List.length_append]
  by_cases c : stps S y.1 = []
  · simp [c]
  · simp [c]
theorem enS_snoc {S : Sys} {X : RLs} {y : List Nat × Nat} : enS S (X ++ [y]) = if enS S X = -1 ∧ stps S y.1 = [] then (y.2 : Int) else enS S X := by
  unfold enS
  rw [List.find?_append]
  cases hf : X.find? (fun y => decide (stps S y.1 = [])) with
  | some z =>
    simp only [Option.some_or]
    rw [if_neg (fun h => by have := h.1; omega)]
  | none =>
    simp only [Option.none_or]
    by_cases c : stps S y.1 = []
    · simp [c]
    · simp [c]
theorem lpS_snoc {b : Bool} {S : Sys} {v : List Nat} {X : RLs} {y : List Nat × Nat} : lpS b S v (X ++ [y]) = if lpS b S v X = -1 ∧ v ∈ nxt b S y.1 then (y.2 : Int) + 1 else lpS b S v X := by
  unfold lpS
  rw [List.find?_append]
  cases hf : X.find? (fun y => decide (v ∈ nxt b S y.1)) with
  | some z =>
    simp only [Option.some_or]
    rw [if_neg (fun h => by have := h.1; omega)]
  | none =>
    simp only [Option.none_or]
    by_cases c : v ∈ nxt b S y.1
    · simp [c]
    · simp [c]
theorem nmS_le {S : Sys} {X : RLs} : nmS S X ≤ X.length := List.length_filter_le _ _
theorem enS_b {S : Sys} {X : RLs} {n : Nat} (hX : ∀ y ∈ X, y.2 ≤ n) : -1 ≤ enS S X ∧ enS S X ≤ n := by
  unfold enS
  cases hf : X.find? (fun y => decide (stps S y.1 = [])) with
  | some z => have := hX z (List.mem_of_find?_eq_some hf); simp only []; omega
  | none => simp only []; omega
theorem lpS_b {b : Bool} {S : Sys} {v : List Nat} {X : RLs} {n : Nat} (hX : ∀ y ∈ X, y.2 ≤ n) : -1 ≤ lpS b S v X ∧ lpS b S v X ≤ (n : Int) + 1 := by
  unfold lpS
  cases hf : X.find? (fun y => decide (v ∈ nxt b S y.1)) with
  | some z => have := hX z (List.mem_of_find?_eq_some hf); simp only []; omega
  | none => simp only []; omega
theorem ofNat32 (n : Nat) : Int32.ofNat n = i32 (n : Int) := by
  unfold i32
  exact (Int32.ofInt_eq_ofNat).symm
theorem c_fill {h i n : Nat} {s : Mm} (hs : sh i = .inl (0, n)) (hi : i < 340) (hn : n ≤ 1000000) (v : Int32) : ∃ f : Nat → Int32, fJ7_fill_53178 (M h s) (h + i) v = some (M h (mI s i f)) ∧ ∀ j, j < n → f j = v := by
  have hal : alen (M h s) (h + i) = some (i32 (n : Int)) := by
    unfold alen
    rw [M_aI hs hi (by decide)]
    simp only []
    rw [if_pos (by decide), ofNat32]
  refine ⟨fun j => if j < n then v else s.1 i j, ?_, fun j hj => if_pos hj⟩
  unfold fJ7_fill_53178
  rw [hal, sb, iter_to n (fun k => (i32 (k : Int), M h (mI s i (fun j => if j < k then v else s.1 i j)))) ?_ ?_ ?_ (b := M h (mI s i (fun j => if j < n then v else s.1 i j))), sb]
  · have : mI s i (fun j => if j < 0 then v else s.1 i j) = s := by
      unfold mI
      refine Prod.ext ?_ rfl
      funext a
      by_cases c : a = i
      · subst c; simp
      · simp [c]
    rw [this]; rfl
  · intro k hk
    unfold fLJ7_fill_53178_5
    rw [if_neg (by rw [le32 (by omega) (by omega) (by omega) (by omega)]; omega), sI_M hs hi (by omega) (by omega) (by omega), sb, xlet_eq, q1, a32, tn0, mI_mI, mI_at]
    have : upd (fun j => if j < k then v else s.1 i j) k v = (fun j => if j < k + 1 then v else s.1 i j) := by
      funext j
      unfold upd
      by_cases c : j = k
      · rw [if_pos c, if_pos (by omega)]
      · rw [if_neg c]
        by_cases c2 : j < k
        · simp only [c2, if_true]; rw [if_pos (by omega)]
        · simp only [c2, if_false]; rw [if_neg (by omega)]
    rw [this]; rfl
  · unfold fLJ7_fill_53178_5
    rw [if_pos (by rw [le32 (by omega) (by omega) (by omega) (by omega)]; omega)]
section HR
variable {h r : Nat} {s : Mm} {S : Sys} {w : List Nat} {b : Bool}
def b32i (b : Bool) : Int := if b then 1 else 0
/-- while the reach is laid: k words are followed -/
def SI (b : Bool) (S : Sys) (s : Mm) (r k : Nat) (w : List Nat) (L : RLs) (s' : Mm) : Prop := Fr r (r + 3) s s' ∧ (∃ sl, RC s' r S.1 L sl) ∧ s'.1 r 5 = i32 (nmS S (L.take k) : Int) ∧ s'.1 r 6 = i32 (enS S (L.take k)) ∧ s'.1 r 7 = i32 (lpS b S w (L.take k)) ∧ s'.1 r 1 = i32 (b32i b) ∧ s'.1 r 9 = s.1 3 6 ∧ k ≤ L.length ∧ 0 < L.length ∧ (lnk L 0).1 = w
theorem adds_app (L : RLs) (a b : List (List Nat)) (c : Nat) : adds L (a ++ b) c = adds (adds L a c) b c := by
  unfold adds; rw [List.foldl_append]
theorem take_le {L : RLs} {K : Nat} {sl : Nat → Nat} {s' : Mm} (hC : RC s' r K L sl) (k : Nat) : ∀ y ∈ L.take k, y.2 ≤ 200 := by
  intro y hy
  obtain ⟨j, hj, e⟩ := mem_getD (d := ([], 0)) (List.mem_of_mem_take hy)
  have h1 := hC.2.2.2.2.2.2.2.2 j hj
  have h2 := hC.2.2.2.1
  unfold lnk at h1
  rw [e] at h1
  omega
theorem c_spLoop (hS : WfS S) (hR : RS s 3 S) (H : Hr r) : ∀ (n k : Nat) (L : RLs) (s' : Mm), k + n = 200 → SI b S s r k w L s' → ∃ s'' : Mm, iterP (fLX6_spread_80 (h + r)) (i32 (k : Int), M h s') = some (M h s'') ∧ SI b S s r (spF b S n k L).length w (spF b S n k L) s'' := by
  intro n
  have h10 := H.2.1
  induction n with
  | zero =>
    intro k L s' hk hI
    obtain ⟨i1, ⟨sl, i2⟩, i3, i4, i5, i6, i7, i8, i9, i10⟩ := id hI
    have h200 := i2.2.2.2.1
    refine ⟨s', ?_, ?_⟩
    · rw [iterP_eq]
      unfold fLX6_spread_80
      rw [re_4 H, sb, i2.1, if_pos (by rw [le32 (by omega) (by omega) (by omega) (by omega)]; omega)]; rfl
    · show SI b S s r L.length w L s'
      rw [show L.length = k by omega]; exact hI
  | succ n ih =>
    intro k L s' hk hI
    obtain ⟨i1, ⟨sl, i2⟩, i3, i4, i5, i6, i7, i8, i9, i10⟩ := id hI
    have h200 := i2.2.2.2.1
    rw [spF]
    by_cases c0 : k < L.length
    · rw [if_pos c0]
      have hR' := hR.fr i1 (Or.inl (by omega))
      have hlb := lpS_b (b := b) (S := S) (v := w) (take_le i2 k)
      have heb := enS_b (S := S) (take_le i2 k)
      obtain ⟨s1, f1, f2⟩ := c_follow (h := h) hS hR' H i2 c0 i5 (by omega)
      have h9 := i2.2.2.2.2.2.2.2.2 k c0
      have hnl := stps_len hS ((i2.2.2.2.2.1 _ (lnk_mem c0)).ww hS.1.2)
      -- s2: behind normals and end
      have hs2 : ∃ s2 : Mm, FW s' r S.1 L ((((stps S (lnk L k).1).map (aft S (lnk L k).1)).foldl (gA ((lnk L k).2 + 1)) (L, lpS b S w (L.take k)))) s1 ∧ Fr r (r + 3) s1 s2 ∧ (∀ sl' L', RC s1 r S.1 L' sl' → RC s2 r S.1 L' sl') ∧ s2.1 r 5 = i32 (nmS S (L.take (k + 1)) : Int) ∧ s2.1 r 6 = i32 (enS S (L.take (k + 1))) ∧ s2.1 r 7 = s1.1 r 7 ∧ s2.1 r 1 = i32 (b32i b) ∧ s2.1 r 9 = s.1 3 6 ∧
          fLX6_spread_80 (h + r) (i32 (k : Int), M h s') = (if s2.1 r 1 = 0 then some (.inl (i32 ((k : Int) + 1), M h s2)) else (fX6_followBack (M h s2) (h + r) (i32 (k : Int))).bind fun w147 => some (.inl (i32 ((k : Int) + 1), w147))) := by
        have k5 : s1.1 r 5 = i32 (nmS S (L.take k) : Int) := by
          obtain ⟨sl', g1, -⟩ := id f2
          rw [g1.2 5 (by decide) (by decide), i3]
        have k6 : s1.1 r 6 = i32 (enS S (L.take k)) := by
          obtain ⟨sl', g1, -⟩ := id f2
          rw [g1.2 6 (by decide) (by decide), i4]
        have k1 : s1.1 r 1 = i32 (b32i b) := by
          obtain ⟨sl', g1, -⟩ := id f2
          rw [g1.2 1 (by decide) (by decide), i6]
        have k9 : s1.1 r 9 = s.1 3 6 := by
          obtain ⟨sl', g1, -⟩ := id f2
          rw [g1.2 9 (by decide) (by decide), i7]
        have kc : s1.1 (r + 2) k = i32 ((lnk L k).2 : Int) := by
          obtain ⟨sl', g1, g2, g3, g4, g5⟩ := id f2
          have := List.IsPrefix.length_le g5
          rw [g2.2.2.1 k (by omega), pre_lnk g5 c0]
        rw [take_lnk c0, nmS_snoc, enS_snoc]
        by_cases c1 : stps S (lnk L k).1 = []
        · obtain ⟨E, hE⟩ : ∃ E : Int, E = (if enS S (L.take k) = -1 ∧ stps S (lnk L k).1 = [] then ((lnk L k).2 : Int) else enS S (L.take k)) := ⟨_, rfl⟩
          rw [← hE]
          refine ⟨mI (mI s1 r (upd (s1.1 r) 5 (i32 ((nmS S (L.take k) : Int) + 1)))) r (upd (upd (s1.1 r) 5 (i32 ((nmS S (L.take k) : Int) + 1))) 6 (i32 E)), f2, ?_, ?_, ?_, ?_, ?_, ?_, ?_, ?_⟩
          · exact (Fr.rf.mI (by omega) (by omega)).mI (by omega) (by omega)
          · intro sl' L' hc
            have := (hc.f (j := 5) (v := i32 ((nmS S (L.take k) : Int) + 1)) (by decide)).f (j := 6) (v := i32 E) (by decide)
            rw [mI_at] at this
            exact this
          · rw [mI_at, upd_ne (by decide), upd_at, if_pos c1]; rfl
          · rw [mI_at, upd_at]
          · rw [mI_at, upd_ne (by decide), upd_ne (by decide)]
          · rw [mI_at, upd_ne (by decide), upd_ne (by decide), k1]
          · rw [mI_at, upd_ne (by decide), upd_ne (by decide), k9]
          · unfold fLX6_spread_80 fJX6_spread_80_135
            rw [re_4 H, sb, i2.1, if_neg (by rw [le32 (by omega) (by omega) (by omega) (by omega)]; omega), if_neg (by rw [q200]; rw [le32 (by omega) (by omega) (by omega) (by omega)]; omega)]
            simp only [re_o H, sb, f1, c1, List.length_nil]
            rw [if_pos (show i32 ((0 : Nat) : Int) = 0 from rfl)]
            simp only [re_5 H, sb, k5, rw_5 H, re_6 H, mI_at, upd_ne (show (6 : Nat) ≠ 5 by decide), k6, q1, a32, re_c H, ra_c H (show (0 : Int) ≤ (k : Int) by omega) (show (k : Int) < 200 by omega), tn0, mI_ne (show r + 2 ≠ r by omega), kc, rw_6 H, re_1 H, xlet_eq, re_o H, ng32]
            by_cases c2 : enS S (L.take k) = -1
            · rw [if_pos (by rw [c2]), show ((lnk L k).2 : Int) = E by rw [hE, if_pos ⟨c2, c1⟩]]
            · rw [if_neg (by rw [eq32 (by omega) (by omega) (by omega) (by omega)]; omega), show enS S (L.take k) = E by rw [hE, if_neg (fun hc => c2 hc.1)]]
        · refine ⟨s1, f2, Fr.rf, fun _ _ hc => hc, ?_, ?_, rfl, k1, k9, ?_⟩
          · rw [if_neg c1, k5]; rfl
          · rw [if_neg (fun hc => c1 hc.2), k6]
          · unfold fLX6_spread_80
            rw [re_4 H, sb, i2.1, if_neg (by rw [le32 (by omega) (by omega) (by omega) (by omega)]; omega), if_neg (by rw [q200]; rw [le32 (by omega) (by omega) (by omega) (by omega)]; omega)]
            have : 0 < (stps S (lnk L k).1).length := List.length_pos_iff.mpr c1
            simp only [re_o H, sb, f1]
            rw [if_neg (by rw [q0]; rw [eq32 (by omega) (by omega) (by omega) (by omega)]; omega)]
            simp only [re_1 H, sb, xlet_eq, q1, a32]
      obtain ⟨s2, g0, g1, g2, g3, g4, g5, g6, g7, g8⟩ := hs2
      obtain ⟨sl1, p1, p2, p3, p4, p5⟩ := id g0
      have hc0 : 0 < (lnk L k).2 + 1 := by omega
      cases b with
      | false =>
        rw [iter_inl (x' := (i32 ((k + 1 : Nat) : Int), M h s2)) (by rw [g8, if_pos (by rw [g6]; rfl)]; rfl)]
        have en : nxt false S (lnk L k).1 = (stps S (lnk L k).1).map (aft S (lnk L k).1) := by
          unfold nxt; simp
        have e1 := gA_adds ((lnk L k).2 + 1) ((stps S (lnk L k).1).map (aft S (lnk L k).1)) (L, lpS false S w (L.take k))
        have e2 := gA_lp ((lnk L k).2 + 1) hc0 ((stps S (lnk L k).1).map (aft S (lnk L k).1)) (L, lpS false S w (L.take k)) i9
        rw [← en] at e1 e2 p2 p3 p5
        simp only [i10] at e2
        rw [e1] at p2 p5
        rw [e2] at p3
        have hp := adds_pre (nxt false S (lnk L k).1) ((lnk L k).2 + 1) L
        have hpl := List.IsPrefix.length_le hp
        refine ih (k + 1) _ s2 (by omega) ⟨(i1.tr p1.1).tr g1, ⟨sl1, g2 _ _ p2⟩, ?_, ?_, ?_, g6, g7, by omega, by omega, by rw [pre_lnk hp i9]; exact i10⟩
        · rw [pre_take hp (by omega)]; exact g3
        · rw [pre_take hp (by omega)]; exact g4
        · rw [pre_take hp (by omega), take_lnk c0, lpS_snoc, g5, p3]; rfl
      | true =>
        have hF2 : FW s' r S.1 L (((stps S (lnk L k).1).map (aft S (lnk L k).1)).foldl (gA ((lnk L k).2 + 1)) (L, lpS true S w (L.take k))) s2 ∨ True := Or.inr trivial
        -- follow back from s2: its own frame begins at s2 with the fields as they are
        have hR2 : RS s2 3 S := (hR'.fr p1.1 (Or.inl (by omega))).fr g1 (Or.inl (by omega))
        have hFW : FW s2 r S.1 L (((stps S (lnk L k).1).map (aft S (lnk L k).1)).foldl (gA ((lnk L k).2 + 1)) (L, lpS true S w (L.take k))) s2 := ⟨sl1, RK.rf, g2 _ _ p2, by rw [g5]; exact p3, p4, p5⟩
        obtain ⟨s3, b1, sl3, b2, b3, b4, b5, b6⟩ := c_followBack (h := h) hS hR2 H hFW c0 h9
        rw [iter_inl (x' := (i32 ((k + 1 : Nat) : Int), M h s3)) (by rw [g8, if_neg (by rw [g6]; decide), b1, sb]; rfl)]
        have en : nxt true S (lnk L k).1 = (stps S (lnk L k).1).map (aft S (lnk L k).1) ++ (bks S (lnk L k).1).map (bkw S (lnk L k).1) := by
          unfold nxt; simp
        rw [← List.foldl_append, ← en] at b3 b4 b6
        have e1 := gA_adds ((lnk L k).2 + 1) (nxt true S (lnk L k).1) (L, lpS true S w (L.take k))
        have e2 := gA_lp ((lnk L k).2 + 1) hc0 (nxt true S (lnk L k).1) (L, lpS true S w (L.take k)) i9
        simp only [i10] at e2
        rw [e1] at b3 b6
        rw [e2] at b4
        have hp := adds_pre (nxt true S (lnk L k).1) ((lnk L k).2 + 1) L
        have hpl := List.IsPrefix.length_le hp
        refine ih (k + 1) _ s3 (by omega) ⟨((i1.tr p1.1).tr g1).tr b2.1, ⟨sl3, b3⟩, ?_, ?_, ?_, ?_, ?_, by omega, by omega, by rw [pre_lnk hp i9]; exact i10⟩
        · rw [pre_take hp (by omega), b2.2 5 (by decide) (by decide)]; exact g3
        · rw [pre_take hp (by omega), b2.2 6 (by decide) (by decide)]; exact g4
        · rw [pre_take hp (by omega), take_lnk c0, lpS_snoc, b4]; rfl
        · rw [b2.2 1 (by decide) (by decide), g6]
        · rw [b2.2 9 (by decide) (by decide), g7]
    · rw [if_neg c0]
      refine ⟨s', ?_, ?_⟩
      · rw [iterP_eq]
        unfold fLX6_spread_80
        rw [re_4 H, sb, i2.1, if_pos (by rw [le32 (by omega) (by omega) (by omega) (by omega)]; omega)]; rfl
      · rw [show L.length = k by omega]; exact hI
/-- the reach of w lies in the cells r on -/
def RFull (b : Bool) (S : Sys) (s : Mm) (r : Nat) (w : List Nat) : Prop := (∃ sl, RC s r S.1 (rch b S w) sl) ∧ s.1 r 5 = i32 (nmS S (rch b S w) : Int) ∧ s.1 r 6 = i32 (enS S (rch b S w)) ∧ s.1 r 7 = i32 (lpS b S w (rch b S w)) ∧ 0 < (rch b S w).length ∧ (lnk (rch b S w) 0).1 = w
theorem c_spread0 (hS : WfS S) (hR : RS s 3 S) (H : Hr r) (hw : Wk S.1 w) (hb : s.1 r 1 = i32 (b32i b)) : ∃ s' : Mm, fJX6_spread_m_33 (M h s) (h + r) (i64 (cw w : Int)) = some (M h s') ∧ Fr r (r + 3) s s' ∧ RFull b S s' r w ∧ s'.1 r 9 = s.1 3 6 ∧ s'.1 r 1 = i32 (b32i b) := by
  have h10 := H.2.1
  have hr := H.1
  obtain ⟨f, f1, f2⟩ := c_fill (h := h) (s := mI s r (upd (upd (upd (upd (upd (s.1 r) 9 (s.1 3 6)) 4 0) 5 0) 6 (-1)) 7 (-1))) H.2.2.2.2.2 (by omega) (by decide) 0
  have hC0 : RC (mI (mI s r (upd (upd (upd (upd (upd (s.1 r) 9 (s.1 3 6)) 4 0) 5 0) 6 (-1)) 7 (-1))) (r + 3) f) r S.1 [] (fun _ => 0) := by
    refine ⟨?_, fun j hj => absurd hj (by simp), fun j hj => absurd hj (by simp), by simp, fun y hy => (by cases hy), fun i j hi => absurd hi (by simp), ?_, ⟨fun q hq => by simp, fun q q' _ _ _ hn => absurd rfl hn, fun j hj => absurd hj (by simp)⟩, fun j hj => absurd hj (by simp)⟩
    · rw [mI_ne (by omega), mI_at, upd_ne (by decide), upd_ne (by decide), upd_ne (by decide), upd_at]; rfl
    · intro q hq
      rw [mI_at, f2 q hq]; rfl
  obtain ⟨s1, sl1, z1, z2, z3, z4⟩ := c_add (h := h) H hS.1.2 hC0 hw (n := 0) (by simp) (lp := -1) (by rw [mI_ne (by omega), mI_at, upd_at]; decide) (by omega)
  have hin : ins [] (w, 0) = [(w, 0)] := by
    unfold ins
    rw [if_pos ⟨by decide, fun y hy => by cases hy⟩]; rfl
  rw [hin] at z2
  have hSI : SI b S s r 0 w [(w, 0)] s1 := by
    refine ⟨((Fr.rf.mI (by omega) (by omega)).mI (by omega) (by omega)).tr z3.1, ⟨sl1, z2⟩, ?_, ?_, ?_, ?_, ?_, by simp, by simp, rfl⟩
    · rw [z3.2 5 (by decide) (by decide), mI_ne (by omega), mI_at, upd_ne (by decide), upd_ne (by decide), upd_at]; rfl
    · rw [z3.2 6 (by decide) (by decide), mI_ne (by omega), mI_at, upd_ne (by decide), upd_at]
      show (-1 : Int32) = i32 (-1)
      decide
    · rw [z4]; rfl
    · rw [z3.2 1 (by decide) (by decide), mI_ne (by omega), mI_at, upd_ne (by decide), upd_ne (by decide), upd_ne (by decide), upd_ne (by decide), upd_ne (by decide), hb]
    · rw [z3.2 9 (by decide) (by decide), mI_ne (by omega), mI_at, upd_ne (by decide), upd_ne (by decide), upd_ne (by decide), upd_ne (by decide), upd_at]
  obtain ⟨s', k1, k2⟩ := c_spLoop (h := h) hS hR H 200 0 [(w, 0)] s1 rfl hSI
  obtain ⟨i1, i2, i3, i4, i5, i6, i7, i8, i9, i10⟩ := k2
  rw [List.take_length] at i3 i4 i5
  refine ⟨s', ?_, i1, ⟨i2, i3, i4, i5, i9, i10⟩, i7, i6⟩
  unfold fJX6_spread_m_33
  simp only [re_r H, sb, g_3_6, rw_9 H, rw_4 H, rw_5 H, rw_6 H, rw_7 H, mI_at, mI_mI, re_s H, f1, re_o H]
  have z1 : fX6_add _ _ _ 0 = _ := z1
  have k1 : iterP _ ((0 : Int32), M h s1) = _ := k1
  rw [z1, sb, k1, sb]
theorem c_spread (hS : WfS S) (hR : RS s 3 S) (H : Hr r) (hw : Wk S.1 w) (hb : s.1 r 1 = i32 (b32i b)) (hc : s.1 r 9 = s.1 3 6 → ¬ s.1 r 4 = 0 → ∃ v, Wk S.1 v ∧ RFull b S s r v) (hz : ∃ z : Nat, s.1 r 4 = i32 (z : Int) ∧ z ≤ 200) : ∃ s' : Mm, fX6_spread (M h s) (h + r) (i64 (cw w : Int)) = some (M h s') ∧ Fr r (r + 3) s s' ∧ RFull b S s' r w ∧ s'.1 r 9 = s.1 3 6 ∧ s'.1 r 1 = i32 (b32i b) := by
  have h0 := c_spread0 (h := h) hS hR H hw hb
  obtain ⟨z, hz1, hz2⟩ := hz
  unfold fX6_spread
  rw [re_4 H, sb, hz1]
  by_cases c0 : z = 0
  · rw [if_pos (by rw [q0]; rw [le32 (by omega) (by omega) (by omega) (by omega)]; omega)]; exact h0
  · rw [if_neg (by rw [q0]; rw [le32 (by omega) (by omega) (by omega) (by omega)]; omega), re_w H, sb, q0, ra_w H (by decide) (by decide), sb, re_9 H, re_r H, sb, sb, g_3_6, sb]
    by_cases c1 : lg_cmp (s.2 (r + 1) (0 : Int).toNat) (i64 (cw w : Int)) = i32 0
    · rw [if_pos c1]
      by_cases c2 : s.1 r 9 = s.1 3 6
      · rw [if_pos c2]
        obtain ⟨v, hv, hF⟩ := hc c2 (by rw [hz1, q0]; rw [eq32 (by omega) (by omega) (by omega) (by omega)]; omega)
        obtain ⟨⟨sl, g1⟩, g2, g3, g4, g5, g6⟩ := id hF
        have e0 : s.2 (r + 1) (0 : Int).toNat = i64 (cw (lnk (rch b S v) 0).1 : Int) := g1.2.1 0 g5
        rw [e0, g6] at c1
        have c1 := (cmp0 _ _).mp c1
        rw [cwe (hv.ww hS.1.2) (hw.ww hS.1.2)] at c1
        subst c1
        exact ⟨s, rfl, Fr.rf, hF, c2, hb⟩
      · rw [if_neg c2]; exact h0
    · rw [if_neg c1]; exact h0
end HR
