/-! FREE in the class: links, one letter more, the count -/
section FC3
variable {h : Nat} {s : Mm} {S : Sys} {Q : List (List Nat)}
theorem AV.i {K i : Nat} {f : Nat → Int32} (hA : AV s K Q) (hi : i ≠ 272) : AV (mI s i f) K Q := ⟨by rw [mI_ne (Ne.symm hi)]; exact hA.1, hA.2.1, hA.2.2.1, hA.2.2.2⟩
theorem RS.i {r i : Nat} {f : Nat → Int32} (hR : RS s r S) (hi : i < r ∨ r + 5 < i) : RS (mI s i f) r S := hR.fr (Fr.rf.mI (lo := i) (hi := i) (Nat.le_refl _) (Nat.le_refl _)) (by omega)
def nxQ (S : Sys) (Q : List (List Nat)) (i x : Nat) : Option Nat := nxS S Q (Q.getD i [] ++ [x])
def LK (S : Sys) (Q : List (List Nat)) (f : Nat → Int32) (st k : Nat) : Prop := ∀ i x, i < Q.length → x < S.1 → (i < st ∨ (i = st ∧ x < k)) → f (i * 5 + x) = i32 (oI (nxQ S Q i x))
theorem c_link1 (hS : WfS S) (hR : RS s 3 S) (hA : AV s S.1 Q) {st : Nat} (hst : st < Q.length) {f0 : Nat → Int32} (h0 : LK S Q f0 st 0) : ∃ y, iterP (fLX1_linkStates_12 (h + 272) (i32 (st : Int))) (0, M h (mI s 274 f0)) = some y ∧ ∃ f, y = M h (mI s 274 f) ∧ LK S Q f (st + 1) 0 := by
  have hK := hS.1.2
  have h85 := hA.2.1
  have hw0 := hA.2.2.2 _ (getD_mem (d := []) hst)
  refine loop_ex (fun k x => ∃ f, x = (i32 (k : Int), M h (mI s 274 f)) ∧ LK S Q f st k) _ S.1 (fun k x hk hx => ?_) (fun x hx => ?_) ⟨f0, rfl, h0⟩
  · obtain ⟨f, rfl, hf⟩ := hx
    have hR1 : RS (mI s 274 f) 3 S := hR.i (by omega)
    have hA1 : AV (mI s 274 f) S.1 Q := hA.i (by omega)
    have hwq := hA.ww hK hst
    have hwx : Ww (Q.getD st [] ++ [k]) := ⟨by rw [List.length_append]; show _ + 1 ≤ 16; omega, fun x hx => by
      rcases List.mem_append.mp hx with hx | hx
      · exact hwq.2 x hx
      · rw [List.mem_singleton.mp hx]; omega⟩
    refine ⟨(i32 ((k + 1 : Nat) : Int), M h (mI s 274 (upd f (st * 5 + k) (i32 (oI (nxQ S Q st k)))))), ?_, _, rfl, ?_⟩
    · unfold fLX1_linkStates_12
      rw [g_272_0, sb, g_3_0, sb, hR1.1, if_neg (by rw [le32 (by omega) (by omega) (by omega) (by omega)]; omega), g_272_3, sb, g_272_1, sb, a_273 (by omega) (by omega), sb, tn0, hA1.2.2.1 st hst, c_longer hwq (show k < 5 by omega) (by omega), sb, o_272, sb, c_nextOf hS hR1 hA1 hwx, sb, q5, m32, a32, s_274 (by omega) (by omega), sb, xlet_eq, q1, a32, mI_mI, mI_at, show ((st : Int) * 5 + (k : Int)).toNat = st * 5 + k by omega]
      rfl
    · intro i x hi hx hc
      by_cases c : i = st ∧ x = k
      · obtain ⟨rfl, rfl⟩ := c
        rw [upd_at]
      · rw [upd_ne (by omega)]
        exact hf i x hi hx (by omega)
  · obtain ⟨f, rfl, hf⟩ := hx
    have hR1 : RS (mI s 274 f) 3 S := hR.i (by omega)
    refine ⟨M h (mI s 274 f), ?_, f, rfl, fun i x hi hx hc => hf i x hi hx (by omega)⟩
    unfold fLX1_linkStates_12
    rw [g_272_0, sb, g_3_0, sb, hR1.1, if_pos (by rw [le32 (by omega) (by omega) (by omega) (by omega)]; omega)]
theorem c_link (hS : WfS S) (hR : RS s 3 S) (hA : AV s S.1 Q) : ∃ f, fX1_linkStates (M h s) (h + 272) = some (M h (mI s 274 f)) ∧ LK S Q f Q.length 0 := by
  have h85 := hA.2.1
  have key : ∃ y, iterP (fLX1_linkStates_2 (h + 272)) (0, M h s) = some y ∧ ∃ f, y = M h (mI s 274 f) ∧ LK S Q f Q.length 0 := by
    refine loop_ex (fun k x => ∃ f, x = (i32 (k : Int), M h (mI s 274 f)) ∧ LK S Q f k 0) _ Q.length (fun k x hk hx => ?_) (fun x hx => ?_) ⟨s.1 274, by rw [mI_id]; rfl, fun i x hi hx hc => by omega⟩
    · obtain ⟨f, rfl, hf⟩ := hx
      have hA1 : AV (mI s 274 f) S.1 Q := hA.i (by omega)
      obtain ⟨y, e1, f2, rfl, e2⟩ := c_link1 (h := h) hS hR hA hk hf
      refine ⟨(i32 ((k + 1 : Nat) : Int), M h (mI s 274 f2)), ?_, f2, rfl, e2⟩
      unfold fLX1_linkStates_2
      rw [g_272_2, sb, hA1.1, if_neg (by rw [le32 (by omega) (by omega) (by omega) (by omega)]; omega), e1, sb, xlet_eq, q1, a32]; rfl
    · obtain ⟨f, rfl, hf⟩ := hx
      have hA1 : AV (mI s 274 f) S.1 Q := hA.i (by omega)
      refine ⟨M h (mI s 274 f), ?_, f, rfl, hf⟩
      unfold fLX1_linkStates_2
      rw [g_272_2, sb, hA1.1, if_pos (by rw [le32 (by omega) (by omega) (by omega) (by omega)]; omega)]
  obtain ⟨y, e1, f, rfl, e2⟩ := key
  refine ⟨f, ?_, e2⟩
  unfold fX1_linkStates
  rw [e1, sb]
/-- which of the two rows holds the ways -/
def AS (s : Mm) (a b : Nat) : Prop := a + b = 1 ∧ s.1 272 4 = i32 (a : Int) ∧ s.1 272 5 = i32 (b : Int)
theorem AS.i {a b i : Nat} {f : Nat → Int32} (hA : AS s a b) (hi : i ≠ 272) : AS (mI s i f) a b := ⟨hA.1, by rw [mI_ne (Ne.symm hi)]; exact hA.2.1, by rw [mI_ne (Ne.symm hi)]; exact hA.2.2⟩
theorem av_4 {a b : Nat} (hA : AS s a b) : gR (M h s) (h + 272) 1 4 = some (h + (275 + a)) := by
  have := hA.1
  rw [gS_M sh_272 rfl (by decide), hA.2.1, clampN (by omega)]
theorem av_5 {a b : Nat} (hA : AS s a b) : gR (M h s) (h + 272) 1 5 = some (h + (275 + b)) := by
  have := hA.1
  rw [gS_M sh_272 rfl (by decide), hA.2.2, clampN (by omega)]
theorem av_sh {a : Nat} (ha : a ≤ 1) : sh (275 + a) = .inl (0, 85) := by
  rcases (show a = 0 ∨ a = 1 by omega) with rfl | rfl
  · exact sh_275
  · exact sh_276
def pv (nx : Nat → Nat → Option Nat) (g : Nat → Nat) (k i : Nat) : Nat := (List.range k).foldl (fun a x => a + (match nx i x with
    | some j => g j
    | none => 0)) 0
theorem pv_succ (nx : Nat → Nat → Option Nat) (g : Nat → Nat) (k i : Nat) : pv nx g (k + 1) i = pv nx g k i + (match nx i k with
    | some j => g j
    | none => 0) := by
  unfold pv
  rw [List.range_succ, List.foldl_append]; rfl
theorem dot_succ (n : Nat) (f g : Nat → Nat) : dot (n + 1) f g = dot n f g + f n * g n := by
  unfold dot
  rw [List.range_succ, List.foldl_append]; rfl
theorem dot_0 (n : Nat) (g : Nat → Nat) : dot n (fun _ => 0) g = 0 := by
  induction n with
  | zero => rfl
  | succ n ih => rw [dot_succ, ih, Nat.zero_mul]
theorem nxQ_lt {i x j : Nat} (h0 : [] ∈ Q) (e : nxQ S Q i x = some j) : j < Q.length := by
  unfold nxQ nxS at e
  split at e
  · cases e
  · obtain ⟨j', e1, e2, -⟩ := fsO_full (Q := Q) (w := Q.getD i [] ++ [x]) h0
    rw [e1] at e
    cases e
    exact e2
/-- the row of ways to come -/
def WI (s : Mm) (n B : Nat) (f : Nat → Nat) (st k K : Nat) (nx : Nat → Nat → Option Nat) (x : Mm) : Prop := ∃ (F : Nat → Int32) (f' : Nat → Nat), x = mI s B F ∧ (∀ i, i < n → F i = i32 (f' i : Int)) ∧ ∀ g, dot n f' g = dot st f (pv nx g K) + f st * pv nx g k st
theorem c_read1 (hS : WfS S) (hR : RS s 3 S) (hA : AV s S.1 Q) (h0 : [] ∈ Q) {a b : Nat} (hAS : AS s a b) (hL : LK S Q (s.1 274) Q.length 0) {f : Nat → Nat} (hf : ∀ i, i < Q.length → s.1 (275 + a) i = i32 (f i : Int)) {st : Nat} (hst : st < Q.length) {s1 : Mm} (hs1 : WI s Q.length (275 + b) f st 0 S.1 (nxQ S Q) s1) : ∃ y, iterP (fLX1_readOneLetter_20 (h + 272) (i32 (st : Int))) (0, M h s1) = some y ∧ ∃ s2, y = M h s2 ∧ WI s Q.length (275 + b) f (st + 1) 0 S.1 (nxQ S Q) s2 := by
  have hK := hS.1.2
  have h85 := hA.2.1
  have hab := hAS.1
  refine loop_ex (fun k x => ∃ s2, x = (i32 (k : Int), M h s2) ∧ WI s Q.length (275 + b) f st k S.1 (nxQ S Q) s2) _ S.1 (fun k x hk hx => ?_) (fun x hx => ?_) ⟨s1, rfl, hs1⟩
  · obtain ⟨s2, rfl, F, f', rfl, hF, hg⟩ := hx
    have hR1 : RS (mI s (275 + b) F) 3 S := hR.i (by omega)
    have hAS1 : AS (mI s (275 + b) F) a b := hAS.i (by omega)
    have hl := hL st k hst hk (Or.inl hst)
    have e274 : aI (M h (mI s (275 + b) F)) (h + 274) 0 (i32 (st : Int) * 5 + i32 (k : Int)) = some (i32 (oI (nxQ S Q st k))) := by
      rw [q5, m32, a32, a_274 (by omega) (by omega), mI_ne (by omega), show ((st : Int) * 5 + (k : Int)).toNat = st * 5 + k by omega, hl]
    unfold fLX1_readOneLetter_20
    rw [g_272_0, sb, g_3_0, sb, hR1.1, if_neg (by rw [le32 (by omega) (by omega) (by omega) (by omega)]; omega), g_272_3, sb, e274, sb]
    cases e : nxQ S Q st k with
    | none =>
      refine ⟨(i32 ((k + 1 : Nat) : Int), M h (mI s (275 + b) F)), ?_, _, rfl, F, f', rfl, hF, fun g => ?_⟩
      · rw [if_pos (show i32 (oI none) = -1 from rfl), xlet_eq, q1, a32]; rfl
      · rw [hg g, pv_succ, e]; rfl
    | some j =>
      have hj := nxQ_lt h0 e
      have r1 : aI (M h (mI s (275 + b) F)) (h + (275 + b)) 0 (i32 (j : Int)) = some (i32 (f' j : Int)) := by
        rw [aI_M (av_sh (by omega)) (by omega) (by decide) (by omega) (by omega) (by decide), mI_at, tn0, hF j hj]
      have r2 : aI (M h (mI s (275 + b) F)) (h + (275 + a)) 0 (i32 (st : Int)) = some (i32 (f st : Int)) := by
        rw [aI_M (av_sh (by omega)) (by omega) (by decide) (by omega) (by omega) (by decide), mI_ne (by omega), tn0, hf st hst]
      have r3 : ∀ v, sI (M h (mI s (275 + b) F)) (h + (275 + b)) (i32 (j : Int)) v = some (M h (mI s (275 + b) (upd F j v))) := by
        intro v
        rw [sI_M (av_sh (by omega)) (by omega) (by omega) (by omega) (by decide), mI_at, mI_mI, tn0]
      refine ⟨(i32 ((k + 1 : Nat) : Int), M h (mI s (275 + b) (upd F j (i32 ((f' j + f st : Nat) : Int))))), ?_, _, rfl, _, fun i => if i = j then f' i + f st else f' i, rfl, fun i hi => ?_, fun g => ?_⟩
      · rw [if_neg (by rw [qm1]; unfold oI; simp only []; rw [eq32 (by omega) (by omega) (by omega) (by omega)]; omega), av_5 hAS1, sb, show i32 (oI (some j)) = i32 (j : Int) from rfl, r1, sb, av_4 hAS1, sb, r2, sb, a32, r3, sb, xlet_eq, q1, a32]; rfl
      · show upd F j (i32 ((f' j + f st : Nat) : Int)) i = i32 ((if i = j then f' i + f st else f' i : Nat) : Int)
        by_cases c : i = j
        · subst c
          rw [upd_at, if_pos rfl]
        · rw [upd_ne c, if_neg c]; exact hF i hi
      · rw [dot_upd hj, hg g, pv_succ, e, Nat.mul_add, Nat.add_assoc]
  · obtain ⟨s2, rfl, F, f', rfl, hF, hg⟩ := hx
    have hR1 : RS (mI s (275 + b) F) 3 S := hR.i (by omega)
    refine ⟨M h (mI s (275 + b) F), ?_, _, rfl, F, f', rfl, hF, fun g => ?_⟩
    · unfold fLX1_readOneLetter_20
      rw [g_272_0, sb, g_3_0, sb, hR1.1, if_pos (by rw [le32 (by omega) (by omega) (by omega) (by omega)]; omega)]
    · rw [hg g, dot_succ]
      show _ = _ + f (st + 1) * 0
      rw [Nat.mul_zero, Nat.add_zero]
/-- the states, their links, the ways -/
def AL (s : Mm) (S : Sys) (Q : List (List Nat)) (a b : Nat) (f : Nat → Nat) : Prop := RS s 3 S ∧ AV s S.1 Q ∧ AS s a b ∧ LK S Q (s.1 274) Q.length 0 ∧ ∀ i, i < Q.length → s.1 (275 + a) i = i32 (f i : Int)
theorem c_readOne (hS : WfS S) (h0 : [] ∈ Q) {a b : Nat} {f : Nat → Nat} (hL : AL s S Q a b f) : ∃ s' f', fX1_readOneLetter (M h s) (h + 272) = some (M h s') ∧ AL s' S Q b a f' ∧ Fr 272 276 s s' ∧ ∀ g, dot Q.length f' g = dot Q.length f (pv (nxQ S Q) g S.1) := by
  obtain ⟨hR, hA, hAS, hLK, hf⟩ := hL
  have h85 := hA.2.1
  have hab := hAS.1
  obtain ⟨F0, eF, hF0⟩ := c_fill (h := h) (s := s) (i := 275 + b) (n := 85) (av_sh (by omega)) (by omega) (by decide) 0
  have key : ∃ y, iterP (fLX1_readOneLetter_10 (h + 272)) (0, M h (mI s (275 + b) F0)) = some y ∧ ∃ s2, y = M h s2 ∧ WI s Q.length (275 + b) f Q.length 0 S.1 (nxQ S Q) s2 := by
    refine loop_ex (fun k x => ∃ s2, x = (i32 (k : Int), M h s2) ∧ WI s Q.length (275 + b) f k 0 S.1 (nxQ S Q) s2) _ Q.length (fun k x hk hx => ?_) (fun x hx => ?_) ⟨_, rfl, F0, fun _ => 0, rfl, fun i hi => by rw [hF0 i (by omega)]; rfl, fun g => ?_⟩
    · obtain ⟨s2, rfl, hs2⟩ := hx
      obtain ⟨y, e1, s3, rfl, e2⟩ := c_read1 (h := h) hS hR hA h0 hAS hLK hf hk hs2
      obtain ⟨F, f', rfl, -⟩ := hs2
      have hA1 : AV (mI s (275 + b) F) S.1 Q := hA.i (by omega)
      refine ⟨(i32 ((k + 1 : Nat) : Int), M h s3), ?_, s3, rfl, e2⟩
      unfold fLX1_readOneLetter_10
      rw [g_272_2, sb, hA1.1, if_neg (by rw [le32 (by omega) (by omega) (by omega) (by omega)]; omega), e1, sb, xlet_eq, q1, a32]; rfl
    · obtain ⟨s2, rfl, hs2⟩ := hx
      refine ⟨M h s2, ?_, s2, rfl, hs2⟩
      obtain ⟨F, f', rfl, -⟩ := hs2
      have hA1 : AV (mI s (275 + b) F) S.1 Q := hA.i (by omega)
      unfold fLX1_readOneLetter_10
      rw [g_272_2, sb, hA1.1, if_pos (by rw [le32 (by omega) (by omega) (by omega) (by omega)]; omega)]
    · rw [dot_0]
      show 0 = 0 + f 0 * 0
      rw [Nat.mul_zero]
  obtain ⟨y, e1, s2, rfl, F, f', rfl, hF, hg⟩ := key
  have hAS1 : AS (mI s (275 + b) F) a b := hAS.i (by omega)
  have hw4 : wrF (M h (mI s (275 + b) F)) (h + 272) 1 4 (.ref (h + (275 + b))) = some (M h (mI (mI s (275 + b) F) 272 (upd ((mI s (275 + b) F).1 272) 4 (i32 (b : Int))))) := wS_M sh_272 rfl (by decide) (by omega)
  have hw5 : ∀ s0 : Mm, wrF (M h s0) (h + 272) 1 5 (.ref (h + (275 + a))) = some (M h (mI s0 272 (upd (s0.1 272) 5 (i32 (a : Int))))) := fun s0 => wS_M sh_272 rfl (by decide) (by omega)
  have hne : (272 : Nat) ≠ 275 + b := by omega
  refine ⟨mI (mI s (275 + b) F) 272 (upd (upd (s.1 272) 4 (i32 (b : Int))) 5 (i32 (a : Int))), f', ?_, ⟨(hR.i (by omega)).i (by omega), ?_, ?_, ?_, ?_⟩, ?_, fun g => ?_⟩
  · unfold fX1_readOneLetter
    rw [av_5 hAS, sb, eF, sb, e1, sb, av_4 hAS1, sb, av_5 hAS1, sb, hw4, sb, hw5, sb, mI_at, mI_mI, mI_ne hne]
  · refine ⟨?_, hA.2.1, hA.2.2.1, hA.2.2.2⟩
    rw [mI_at, upd_ne (by decide), upd_ne (by decide)]; exact hA.1
  · refine ⟨by omega, ?_, ?_⟩
    · rw [mI_at, upd_ne (by decide), upd_at]
    · rw [mI_at, upd_at]
  · rw [mI_ne (by decide), mI_ne (by omega)]; exact hLK
  · intro i hi
    rw [mI_ne (by omega), mI_at]; exact hF i hi
  · exact (Fr.rf.mI (by omega) (by omega)).mI (by omega) (by omega)
  · rw [hg g]
    show _ + f Q.length * 0 = _
    rw [Nat.mul_zero, Nat.add_zero]
theorem c_free (hS : WfS S) (hR : RS s 3 S) {a b : Nat} (hAS : AS s a b) {n : Nat} (hn : n ≤ 8) : ∃ s' a' b', fX1_countOf (M h s) (h + 272) (i32 (n : Int)) = some (i32 (frS S n [] : Int), M h s') ∧ Fr 272 276 s s' ∧ AS s' a' b' := by
  have hab := hAS.1
  obtain ⟨s1, Q, e1, g1, g2, g3, g4, g5, g6⟩ := c_states (h := h) hS hR
  have h85 := g3.2.1
  have hR1 : RS s1 3 S := hR.fr g1 (by omega)
  obtain ⟨f, e2, hLK⟩ := c_link (h := h) hS hR1 g3
  have hAS1 : AS s1 a b := ⟨hab, by rw [g2 4 (by decide)]; exact hAS.2.1, by rw [g2 5 (by decide)]; exact hAS.2.2⟩
  have hAS2 : AS (mI s1 274 f) a b := hAS1.i (by decide)
  obtain ⟨F0, eF, hF0⟩ := c_fill (h := h) (s := mI s1 274 f) (i := 275 + a) (n := 85) (av_sh (by omega)) (by omega) (by decide) 0
  have hAS3 : AS (mI (mI s1 274 f) (275 + a) F0) a b := hAS2.i (by omega)
  have es : sI (M h (mI (mI s1 274 f) (275 + a) F0)) (h + (275 + a)) 0 1 = some (M h (mI (mI s1 274 f) (275 + a) (upd F0 0 1))) := by
    have := sI_M (h := h) (s := mI (mI s1 274 f) (275 + a) F0) (i := 275 + a) (n := 85) (e := 0) (v := 1) (av_sh (by omega)) (by omega) (by omega) (by omega) (by decide)
    rw [mI_at, mI_mI] at this
    exact this
  have hL0 : AL (mI (mI s1 274 f) (275 + a) (upd F0 0 1)) S Q a b (fun i => if i = 0 then 0 + 1 else 0) := by
    refine ⟨(hR1.i (by omega)).i (by omega), (g3.i (by omega)).i (by omega), hAS2.i (by omega), ?_, fun i hi => ?_⟩
    · rw [mI_ne (by omega), mI_at]; exact hLK
    · rw [mI_at]
      show upd F0 0 1 i = i32 ((if i = 0 then 0 + 1 else 0 : Nat) : Int)
      by_cases c : i = 0
      · subst c
        rw [upd_at, if_pos rfl]; rfl
      · rw [upd_ne c, if_neg c, hF0 i (by omega)]; rfl
  have hF1 : Fr 272 276 s (mI (mI s1 274 f) (275 + a) (upd F0 0 1)) := ((g1.mono (by decide) (by decide)).mI (by decide) (by decide)).mI (by omega) (by omega)
  have key : ∃ y, iterP (fLX1_countOf_25 (h + 272) (i32 (n : Int))) (0, M h (mI (mI s1 274 f) (275 + a) (upd F0 0 1))) = some y ∧ ∃ s' a' b' f', y = M h s' ∧ AL s' S Q a' b' f' ∧ Fr 272 276 s s' ∧ dot Q.length f' (pth (nxQ S Q) S.1 0) = pth (nxQ S Q) S.1 n 0 := by
    refine loop_ex (fun k x => ∃ s' a' b' f', x = (i32 (k : Int), M h s') ∧ AL s' S Q a' b' f' ∧ Fr 272 276 s s' ∧ k ≤ n ∧ dot Q.length f' (pth (nxQ S Q) S.1 (n - k)) = pth (nxQ S Q) S.1 n 0) _ n (fun k x hk hx => ?_) (fun x hx => ?_) ⟨_, a, b, _, rfl, hL0, hF1, by omega, ?_⟩
    · obtain ⟨s', a', b', f', rfl, k1, k2, k3, k4⟩ := hx
      obtain ⟨s2, f2, m1, m2, m3, m4⟩ := c_readOne (h := h) hS g6.1 k1
      refine ⟨(i32 ((k + 1 : Nat) : Int), M h s2), ?_, s2, b', a', f2, rfl, m2, k2.tr m3, by omega, ?_⟩
      · unfold fLX1_countOf_25
        rw [if_neg (by rw [le32 (by omega) (by omega) (by omega) (by omega)]; omega), o_272, sb, m1, sb, xlet_eq, q1, a32]; rfl
      · rw [m4, ← k4, show n - k = (n - (k + 1)) + 1 by omega]; rfl
    · obtain ⟨s', a', b', f', rfl, k1, k2, k3, k4⟩ := hx
      refine ⟨M h s', ?_, s', a', b', f', rfl, k1, k2, ?_⟩
      · unfold fLX1_countOf_25
        rw [if_pos (by rw [le32 (by omega) (by omega) (by omega) (by omega)]; omega)]
      · rw [Nat.sub_self] at k4; exact k4
    · rw [dot_upd (n := Q.length) (j := 0) (v := 1) (by omega) (fun _ => 0), dot_0, Nat.zero_add, Nat.one_mul, Nat.sub_zero]
  obtain ⟨y, e3, s', a', b', f', rfl, k1, k2, k3⟩ := key
  obtain ⟨l1, l2, l3, l4, l5⟩ := k1
  have hl1 := l3.1
  refine ⟨s', a', b', ?_, k2, l3⟩
  have ef : frS S n [] = pth (nxQ S Q) S.1 n 0 := by
    refine frS_pth (Q := Q) g6 (fun r hr => (hS.2.2.1 r hr).2.2) (fun i x hi hx => ?_) n [] 0 (by omega) ?_ (by simpa using hn)
    · unfold nxQ nxS
      by_cases c : endB S (Q.getD i [] ++ [x]) = true
      · rw [if_pos c]; exact endB_iff.mp c
      · rw [if_neg c]
        obtain ⟨j, e1, e2, e3⟩ := fsO_full (Q := Q) (w := Q.getD i [] ++ [x]) g6.1
        rw [e1]
        exact ⟨e2, fun hc => c (endB_iff.mpr hc), e3⟩
    · rw [g5]
      exact ⟨List.suffix_refl _, g6.1, fun v hv _ => hv⟩
  have esum : iterP (fLX1_countOf_44 (M h s') (h + 272)) (0, 0) = some (i32 (frS S n [] : Int)) := by
    rw [loop_fold (fun a i => a + f' i) (fun a k => (i32 (a : Int), i32 (k : Int))) (fun a => i32 (a : Int)) Q.length ?_ ?_ (a := 0) (show ((0 : Int32), (0 : Int32)) = _ from rfl)]
    · rw [ef, ← k3]
      unfold dot
      refine congrArg (fun z : Nat => some (i32 (z : Int))) (foldl_congr' _ (fun a i _ => ?_) 0)
      show a + f' i = a + f' i * 1
      rw [Nat.mul_one]
    · intro a i hi
      unfold fLX1_countOf_44
      rw [g_272_2, sb, l2.1, if_neg (by rw [le32 (by omega) (by omega) (by omega) (by omega)]; omega), av_4 l3, sb, aI_M (av_sh (by omega)) (by omega) (by decide) (by omega) (by omega) (by decide), sb, tn0, l5 i hi, xlet_eq, xlet_eq, q1, a32, a32]; rfl
    · intro a
      unfold fLX1_countOf_44
      rw [g_272_2, sb, l2.1, if_pos (by rw [le32 (by omega) (by omega) (by omega) (by omega)]; omega)]
  unfold fX1_countOf
  rw [o_272, sb, e1, sb, o_272, sb, e2, sb, av_4 hAS2, sb, eF, sb, av_4 hAS3, sb, es, sb, e3, sb, esum, sb]
end FC3
