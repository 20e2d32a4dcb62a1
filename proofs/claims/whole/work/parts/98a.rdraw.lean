/-! DRAWINGS in the reference -/
theorem sar64 {a s : Nat} (ha : a < 9223372036854775808) (hs : s < 64) : i64 (a : Int) >>> (i64 (s : Int) &&& 63) = i64 ((a / 2 ^ s : Nat) : Int) := by
  rw [show (63 : Int64) = i64 ((63 : Nat) : Int) from rfl, and64, and63 hs]
  apply Int64.toBitVec_inj.mp
  rw [Int64.toBitVec_shiftRight, bv64, bv64, bv64]
  have h1 : ((BitVec.ofNat 64 s).smod 64) = BitVec.ofNat 64 s := by
    apply BitVec.eq_of_toInt_eq
    rw [BitVec.toInt_smod]
    have h2 : (BitVec.ofNat 64 s).toInt = s := by
      rw [BitVec.toInt_eq_toNat_of_lt (by simp; omega)]; simp; omega
    rw [h2]
    show Int.fmod (s : Int) 64 = s
    rw [Int.fmod_eq_emod_of_nonneg _ (by omega)]
    omega
  rw [h1]
  have hm : (BitVec.ofNat 64 a).msb = false := by
    rw [BitVec.msb_eq_false_iff_two_mul_lt]; simp; omega
  show (BitVec.ofNat 64 a).sshiftRight (BitVec.ofNat 64 s).toNat = _
  rw [BitVec.sshiftRight_eq_of_msb_false hm]
  apply BitVec.eq_of_toNat_eq
  have := Nat.div_le_self a (2 ^ s)
  simp only [BitVec.toNat_ushiftRight, BitVec.toNat_ofNat]
  rw [Nat.mod_eq_of_lt (show s < 2 ^ 64 by omega), Nat.mod_eq_of_lt (show a < 2 ^ 64 by omega), Nat.shiftRight_eq_div_pow, Nat.mod_eq_of_lt (show a / 2 ^ s < 2 ^ 64 by omega)]
/-- makers that were met, as bits -/
def zbt (l : List Nat) : Nat := l.foldl (fun a m => a ||| 2 ^ m) 0
theorem zbt_app {l : List Nat} {m : Nat} : zbt (l ++ [m]) = zbt l ||| 2 ^ m := by unfold zbt; rw [List.foldl_append]; rfl
theorem zbt_bit (l : List Nat) (m : Nat) : (zbt l).testBit m = decide (m ∈ l) := by
  have key : ∀ (l : List Nat) (a : Nat), (l.foldl (fun a m => a ||| 2 ^ m) a).testBit m = (a.testBit m || decide (m ∈ l)) := by
    intro l
    induction l with
    | nil => intro a; simp
    | cons x l ih =>
      intro a
      rw [List.foldl_cons, ih, Nat.testBit_or, Nat.testBit_two_pow, Bool.or_assoc]
      congr 1
      by_cases c : m = x
      · subst c; simp
      · rw [decide_eq_false (fun e => c e.symm), Bool.false_or]
        simp [c]
  unfold zbt
  rw [key, Nat.zero_testBit, Bool.false_or]
theorem zbt_lt {l : List Nat} (h : ∀ m ∈ l, m < 40) : zbt l < 2 ^ 40 := by
  have key : ∀ (l : List Nat) (a : Nat), a < 2 ^ 40 → (∀ m ∈ l, m < 40) → l.foldl (fun a m => a ||| 2 ^ m) a < 2 ^ 40 := by
    intro l
    induction l with
    | nil => intro a ha _; exact ha
    | cons x l ih =>
      intro a ha hx
      rw [List.foldl_cons]
      exact ih _ (Nat.or_lt_two_pow ha (Nat.pow_lt_pow_right (by decide) (hx x (by simp)))) (fun m hm => hx m (by simp [hm]))
  exact key l 0 (by decide) h
theorem zbt_met {l : List Nat} (h : ∀ m ∈ l, m < 40) {m : Nat} (hm : m < 40) : (lg_cmp ((i64 (zbt l : Int) >>> ((i32 (m : Int)).toInt64 &&& 63)) &&& 1) 1 = 0) = (m ∈ l) := by
  have h1 := zbt_lt h
  rw [toL (by omega) (by omega), sar64 (by omega) (by omega), show (1 : Int64) = i64 ((1 : Nat) : Int) from by decide, and64, show (zbt l / 2 ^ m) &&& 1 = zbt l / 2 ^ m % 2 from Nat.and_one_is_mod _, cmp0, eq64 (by omega) (by omega) (by omega) (by omega)]
  have h2 := zbt_bit l m
  rw [Nat.testBit_eq_decide_div_mod_eq] at h2
  refine propext ⟨fun h9 => ?_, fun h9 => ?_⟩
  · rw [decide_eq_true (by omega)] at h2
    exact of_decide_eq_true h2.symm
  · rw [decide_eq_true h9] at h2
    have := of_decide_eq_true h2
    omega
section ZR
variable {h : Nat} {s : Mm}
/-- what may have changed: the cells C, the fields I of the reference -/
def Fy (C I : List Nat) (s s' : Mm) : Prop := s'.2 = s.2 ∧ (∀ i, i ≠ 308 → i ∉ C → s'.1 i = s.1 i) ∧ (∀ j, j ∉ I → s'.1 308 j = s.1 308 j)
theorem Fy.rf {C I : List Nat} : Fy C I s s := ⟨rfl, fun _ _ _ => rfl, fun _ _ => rfl⟩
theorem Fy.tr {C I : List Nat} {s' s'' : Mm} (h1 : Fy C I s s') (h2 : Fy C I s' s'') : Fy C I s s'' := ⟨h2.1.trans h1.1, fun t a b => (h2.2.1 t a b).trans (h1.2.1 t a b), fun j a => (h2.2.2 j a).trans (h1.2.2 j a)⟩
theorem Fy.mono {C I C' I' : List Nat} {s' : Mm} (h1 : Fy C I s s') (a1 : ∀ t ∈ C, t ∈ C') (a2 : ∀ t ∈ I, t ∈ I') : Fy C' I' s s' := ⟨h1.1, fun t a b => h1.2.1 t a (fun hc => b (a1 t hc)), fun j a => h1.2.2 j (fun hc => a (a2 j hc))⟩
theorem Fy.fI {C I : List Nat} {s' : Mm} (h1 : Fy C I s s') {j : Nat} {v : Int32} (hj : j ∈ I) : Fy C I s (mI s' 308 (upd (s'.1 308) j v)) := ⟨h1.1, fun q a b => by
  rw [mI_ne a]; exact h1.2.1 q a b, fun q a => by
  rw [mI_at, upd_ne (fun e => a (by rw [e]; exact hj))]; exact h1.2.2 q a⟩
theorem Fy.mI {C I : List Nat} {s' : Mm} (h1 : Fy C I s s') {t : Nat} {f : Nat → Int32} (ht : t ∈ C) (h0 : t ≠ 308) : Fy C I s (mI s' t f) := ⟨h1.1, fun q a b => by
  rw [mI_ne (fun e => b (by rw [e]; exact ht))]; exact h1.2.1 q a b, fun j a => by
  rw [mI_ne (Ne.symm h0)]; exact h1.2.2 j a⟩
theorem Fy.rfx {C I : List Nat} {s' : Mm} (h1 : Fy C I s s') {lo hi : Nat} (hC : ∀ i ∈ C, lo ≤ i ∧ i ≤ hi) : Rf I [] lo hi s s' := ⟨fun i a b => ⟨h1.2.1 i a (fun hc => b (hC i hc)), by rw [h1.1]⟩, h1.2.2, fun j _ => by rw [h1.1]⟩
def Yr (s : Mm) (R : List Nat) : Prop := s.1 308 55 = i32 (R.length : Int) ∧ ∀ j, j < R.length → s.1 336 j = i32 ((R.getD j 0 : Nat) : Int)
theorem Yr.fy {C I : List Nat} {R : List Nat} {s' : Mm} (hR : Yr s R) (h1 : Fy C I s s') (hc : 336 ∉ C) (hi : 55 ∉ I) : Yr s' R := ⟨(h1.2.2 55 hi).trans hR.1, fun j hj => by rw [h1.2.1 336 (by decide) hc]; exact hR.2 j hj⟩
/-- the tail is moved -/
def ymv (F : Nat → Int32) (p a b n : Nat) : Nat → Int32 := fun j => if p + b ≤ j ∧ j < p + b + n then F (j - b + a) else F j
theorem r_mvUp {p k a b n : Nat} (hk : k < 40) (hR : s.1 308 55 = i32 ((p + a + n : Nat) : Int)) (hab : b ≤ a) (h1 : p + a + n ≤ 656) {x2 : Int32} : iterP (fLX12_replaces_74 (h + 308) x2 (i32 (k : Int)) (i32 ((b : Int) - (a : Int)))) (i32 ((p : Int) + (a : Int)), M h s) = some (M h (mI s 336 (ymv (s.1 336) p a b n))) := by
  refine iter_to n (fun m => (i32 (((p + a + m : Nat)) : Int), M h (mI s 336 (ymv (s.1 336) p a b m)))) ?_ (fun m hm => ?_) ?_
  · refine Prod.ext (by simp only []; congr 1) ?_
    simp only []
    have : ymv (s.1 336) p a b 0 = s.1 336 := by
      funext j
      unfold ymv
      rw [if_neg (by omega)]
    rw [this, mI_id]
  · unfold fLX12_replaces_74
    simp only []
    have e1 : ymv (s.1 336) p a b m (p + a + m) = s.1 336 (p + a + m) := by
      unfold ymv
      rw [if_neg (by omega)]
    rw [g_308_55, sb, mI_ne (by decide), hR, if_neg (by rw [le32 (by omega) (by omega) (by omega) (by omega)]; omega), g_308_54, sb, sb, a_336 (by omega) (by omega), sb, mI_at, tn0, e1, a32, s_336 (by omega) (by omega), sb, xlet_eq, q1, a32, mI_mI, mI_at]
    refine congrArg (fun F => some (Sum.inl (i32 (((p + a + m : Nat) : Int) + 1), M h (mI s 336 F)))) (funext (fun j => ?_))
    rw [show (((p + a + m : Nat) : Int) + ((b : Int) - (a : Int))).toNat = p + b + m by omega]
    unfold ymv
    by_cases c : j = p + b + m
    · subst c
      rw [upd_at, if_pos (by omega), show p + b + m - b + a = p + a + m by omega]
    · rw [upd_ne c]
      by_cases c2 : p + b ≤ j ∧ j < p + b + m
      · rw [if_pos c2, if_pos (by omega)]
      · rw [if_neg c2, if_neg (by omega)]
  · unfold fLX12_replaces_74
    simp only []
    rw [g_308_55, sb, mI_ne (by decide), hR, if_pos (by rw [le32 (by omega) (by omega) (by omega) (by omega)]; omega)]
theorem r_mvDown {p k a b n : Nat} (hk : k < 40) (ha : s.1 328 k = i32 (a : Int)) (hab : a < b) (ha1 : 1 ≤ p + a) (h1 : p + a + n ≤ 656) (h2 : p + b + n ≤ 656) : iterP (fLX12_replaces_26 (h + 308) (i32 (p : Int)) (i32 (k : Int)) (i32 ((b : Int) - (a : Int)))) (i32 (((p + a + n : Nat) : Int) - 1), M h s) = some (M h (mI s 336 (ymv (s.1 336) p a b n))) := by
  refine iter_to n (fun m => (i32 (((p + a + n : Nat) : Int) - 1 - (m : Int)), M h (mI s 336 (fun j => if p + b + n - m ≤ j ∧ j < p + b + n then s.1 336 (j - b + a) else s.1 336 j)))) ?_ (fun m hm => ?_) ?_
  · refine Prod.ext (by simp only []; congr 1; omega) ?_
    simp only []
    have : (fun j => if p + b + n - 0 ≤ j ∧ j < p + b + n then s.1 336 (j - b + a) else s.1 336 j) = s.1 336 := by
      funext j
      rw [if_neg (by omega)]
    rw [this, mI_id]
  · unfold fLX12_replaces_26
    simp only []
    rw [g_308_46, sb, a_328 (by omega) (by omega), sb, mI_ne (by decide), tn0, ha, a32, if_neg (by rw [lt32 (by omega) (by omega) (by omega) (by omega)]; omega), g_308_54, sb, sb, a_336 (by omega) (by omega), sb, mI_at, show (((p + a + n : Nat) : Int) - 1 - (m : Int)).toNat = p + a + n - 1 - m by omega, if_neg (by omega), a32, s_336 (by omega) (by omega), sb, xlet_eq, qm1, a32, mI_mI, mI_at]
    rw [show (((p + a + n : Nat) : Int) - 1 - (m : Int) + -1) = ((p + a + n : Nat) : Int) - 1 - ((m + 1 : Nat) : Int) by omega]
    refine congrArg (fun F => some (Sum.inl (i32 (((p + a + n : Nat) : Int) - 1 - ((m + 1 : Nat) : Int)), M h (mI s 336 F)))) (funext (fun j => ?_))
    rw [show (((p + a + n : Nat) : Int) - 1 - (m : Int) + ((b : Int) - (a : Int))).toNat = p + b + n - 1 - m by omega]
    by_cases c : j = p + b + n - 1 - m
    · subst c
      rw [upd_at, if_pos (by omega), show p + b + n - 1 - m - b + a = p + a + n - 1 - m by omega]
    · rw [upd_ne c]
      by_cases c2 : p + b + n - m ≤ j ∧ j < p + b + n
      · rw [if_pos c2, if_pos (by omega)]
      · rw [if_neg c2, if_neg (by omega)]
  · unfold fLX12_replaces_26
    simp only []
    rw [g_308_46, sb, a_328 (by omega) (by omega), sb, mI_ne (by decide), tn0, ha, a32, if_pos (by rw [lt32 (by omega) (by omega) (by omega) (by omega)]; omega)]
    refine congrArg (fun F => some (Sum.inr (M h (mI s 336 F)))) (funext (fun j => ?_))
    unfold ymv
    by_cases c2 : p + b + n - n ≤ j ∧ j < p + b + n
    · rw [if_pos c2, if_pos (by omega)]
    · rw [if_neg c2, if_neg (by omega)]
theorem r_zput {p k b f n : Nat} {off : Int} (hk : k < 40) (hb : s.1 330 k = i32 (b : Int)) (hf : s.1 329 k = i32 (f : Int)) (hn : s.1 308 55 = i32 (n : Int)) (hnb : n ≤ 1000) (hoff : -1000 ≤ off ∧ off ≤ 1000) (h1 : p + b ≤ 656) (hfb : f ≤ 100000) : ∃ s', fJX12_replaces_m_105 (M h s) (h + 308) (i32 (p : Int)) (i32 (k : Int)) (i32 off) = some (M h s') ∧ Fy [336] [55] s s' ∧ s'.1 308 55 = i32 ((n : Int) + off) ∧ s'.1 336 = fun j => if p ≤ j ∧ j < p + b then i32 ((f + (j - p) : Nat) : Int) else s.1 336 j := by
  have hloop : iterP (fLX12_replaces_118 (h + 308) (i32 (p : Int)) (i32 (k : Int))) (0, M h (mI s 308 (upd (s.1 308) 55 (i32 ((n : Int) + off))))) = some (M h (mI (mI s 308 (upd (s.1 308) 55 (i32 ((n : Int) + off)))) 336 (fun j => if p ≤ j ∧ j < p + b then i32 ((f + (j - p) : Nat) : Int) else s.1 336 j))) := by
    refine iter_to b (fun m => (i32 (m : Int), M h (mI (mI s 308 (upd (s.1 308) 55 (i32 ((n : Int) + off)))) 336 (fun j => if p ≤ j ∧ j < p + m then i32 ((f + (j - p) : Nat) : Int) else s.1 336 j)))) ?_ (fun m hm => ?_) ?_
    · refine Prod.ext rfl ?_
      simp only []
      have : (fun j => if p ≤ j ∧ j < p + 0 then i32 ((f + (j - p) : Nat) : Int) else s.1 336 j) = (mI s 308 (upd (s.1 308) 55 (i32 ((n : Int) + off)))).1 336 := by
        rw [mI_ne (by decide)]
        funext j
        rw [if_neg (by omega)]
      rw [this, mI_id]
    · unfold fLX12_replaces_118
      simp only []
      rw [g_308_48, sb, a_330 (by omega) (by omega), sb, mI_ne (by decide), mI_ne (by decide), tn0, hb, if_neg (by rw [le32 (by omega) (by omega) (by omega) (by omega)]; omega), g_308_54, sb, g_308_47, sb, a_329 (by omega) (by omega), sb, mI_ne (by decide), mI_ne (by decide), tn0, hf, a32, a32, s_336 (by omega) (by omega), sb, xlet_eq, q1, a32, mI_mI, mI_at, show ((p : Int) + (m : Int)).toNat = p + m by omega]
      refine congrArg (fun F => some (Sum.inl (i32 ((m : Int) + 1), M h (mI (mI s 308 (upd (s.1 308) 55 (i32 ((n : Int) + off)))) 336 F)))) (funext (fun j => ?_))
      by_cases c : j = p + m
      · subst c
        rw [upd_at, if_pos (by omega)]
        congr 1; omega
      · rw [upd_ne c]
        by_cases c2 : p ≤ j ∧ j < p + m
        · rw [if_pos c2, if_pos (by omega)]
        · rw [if_neg c2, if_neg (by omega)]
    · unfold fLX12_replaces_118
      simp only []
      rw [g_308_48, sb, a_330 (by omega) (by omega), sb, mI_ne (by decide), mI_ne (by decide), tn0, hb, if_pos (by rw [le32 (by omega) (by omega) (by omega) (by omega)]; omega)]
  refine ⟨mI (mI s 308 (upd (s.1 308) 55 (i32 ((n : Int) + off)))) 336 (fun j => if p ≤ j ∧ j < p + b then i32 ((f + (j - p) : Nat) : Int) else s.1 336 j), ?_, (Fy.rf.fI (by decide)).mI (by decide) (by decide), ?_, ?_⟩
  · unfold fJX12_replaces_m_105
    rw [g_308_55, sb, hn, a32, w_308_55, sb, hloop, sb]
  · rw [mI_ne (by decide), mI_at, upd_at]
  · rw [mI_at]
theorem r_zrep {R : List Nat} {p k a b f : Nat} (hk : k < 40) (hR : Yr s R) (ha : s.1 328 k = i32 (a : Int)) (hb : s.1 330 k = i32 (b : Int)) (hf : s.1 329 k = i32 (f : Int)) (hp : p + a ≤ R.length) (ha1 : 1 ≤ a) (h1 : R.length ≤ 656) (h2 : R.length + b ≤ 656 + a) (hfb : f ≤ 100000) :
    ∃ s', fX12_replaces (M h s) (h + 308) (i32 (p : Int)) (i32 (k : Int)) = some (M h s') ∧ Fy [336] [55] s s' ∧ Yr s' (zrp R p a (List.range' f b)) := by
  obtain ⟨s2, e2, g1, g2, g3⟩ := r_zput (h := h) (s := mI s 336 (ymv (s.1 336) p a b (R.length - p - a))) (p := p) (k := k) (b := b) (f := f) (n := R.length) (off := (b : Int) - (a : Int)) hk (by rw [mI_ne (by decide)]; exact hb) (by rw [mI_ne (by decide)]; exact hf) (by rw [mI_ne (by decide)]; exact hR.1) (by omega) (by omega) (by omega) hfb
  have hn : R.length = p + a + (R.length - p - a) := by omega
  refine ⟨s2, ?_, (Fy.rf.mI (by decide) (by decide)).tr g1, ?_, fun j hj => ?_⟩
  · unfold fX12_replaces
    rw [g_308_48, sb, a_330 (by omega) (by omega), sb, tn0, hb, g_308_46, sb, a_328 (by omega) (by omega), sb, tn0, ha, xlet_eq, s32]
    by_cases c : b ≤ a
    · have eu := r_mvUp (h := h) (s := s) (p := p) (k := k) (a := a) (b := b) (n := R.length - p - a) (x2 := i32 (p : Int)) hk (by rw [← hn]; exact hR.1) c (by omega)
      rw [if_pos (by rw [q0]; rw [le32 (by omega) (by omega) (by omega) (by omega)]; omega), sb, a_328 (by omega) (by omega), sb, tn0, ha, xlet_eq, a32, eu, sb, e2]
    · have ed := r_mvDown (h := h) (s := s) (p := p) (k := k) (a := a) (b := b) (n := R.length - p - a) hk ha (by omega) (by omega) (by omega) (by omega)
      rw [← hn] at ed
      rw [if_neg (by rw [q0]; rw [le32 (by omega) (by omega) (by omega) (by omega)]; omega), g_308_55, sb, hR.1, xlet_eq, q1, s32, ed, sb, e2]
  · rw [g2, zrp_len hp]
    congr 1; omega
  · rw [zrp_len hp] at hj
    rw [g3, zrp_get hp, mI_at]
    simp only []
    unfold ymv
    by_cases c1 : j < p
    · rw [if_neg (by omega), if_neg (by omega), if_pos c1]; exact hR.2 j (by omega)
    · rw [if_neg c1]
      by_cases c2 : j < p + b
      · rw [if_pos (by omega), if_pos c2]
      · rw [if_neg (by omega), if_neg c2, if_pos (by omega)]
        exact hR.2 _ (by omega)
def Yt (s : Mm) (k : Nat) (A : List Nat) : Prop := s.1 328 k = i32 (A.length : Int) ∧ ∀ j, j < A.length → s.1 327 (16 * k + j) = i32 ((A.getD j 0 : Nat) : Int)
theorem Yt.fy {C I : List Nat} {k : Nat} {A : List Nat} {s' : Mm} (hR : Yt s k A) (h1 : Fy C I s s') (hc : 328 ∉ C) (hi : 327 ∉ C) : Yt s' k A := ⟨by rw [h1.2.1 328 (by decide) hc]; exact hR.1, fun j hj => by rw [h1.2.1 327 (by decide) hi]; exact hR.2 j hj⟩
theorem r_zlies {R A : List Nat} {p k : Nat} (hk : k < 40) (hR : Yr s R) (hT : Yt s k A) (hA : A.length ≤ 16) (hp : p < R.length) (h1 : R.length ≤ 656) (hb : ∀ i ∈ R, i < 656) (hbA : ∀ i ∈ A, i < 656) : fX12_isThere (M h s) (h + 308) (i32 (k : Int)) (i32 (p : Int)) = some (if ztk R p A.length = A then 1 else 0) := by
  unfold fX12_isThere
  rw [g_308_46, sb, a_328 (by omega) (by omega), sb, tn0, hT.1, g_308_55, sb, hR.1, a32]
  by_cases c : p + A.length ≤ R.length
  · rw [if_pos (by rw [le32 (by omega) (by omega) (by omega) (by omega)]; omega), loop_find (fun j => decide (¬ R.getD (p + j) 0 = A.getD j 0)) (fun j => i32 (j : Int)) (.inr ()) (fun _ => .inl ()) A.length ?_ ?_ (show (0 : Int32) = _ from rfl), sb]
    · cases ef : (List.range A.length).find? (fun j => decide (¬ R.getD (p + j) 0 = A.getD j 0)) with
      | none =>
        have h9 := find_none ef
        rw [if_pos ((ztk_eq c).mpr (fun j hj => by
          have := h9 j hj
          rw [decide_eq_false_iff_not] at this
          exact Classical.not_not.mp this))]
      | some j =>
        obtain ⟨j1, j2, -⟩ := find_some ef
        rw [if_neg (fun h9 => of_decide_eq_true j2 ((ztk_eq c).mp h9 j j1))]
    · intro j hj
      have x1 := hb _ (getD_mem (d := 0) (show p + j < R.length by omega))
      have x2 := hbA _ (getD_mem (d := 0) hj)
      unfold fLX12_isThere_19
      rw [g_308_46, sb, a_328 (by omega) (by omega), sb, tn0, hT.1, if_neg (by rw [le32 (by omega) (by omega) (by omega) (by omega)]; omega), g_308_54, sb, a32, a_336 (by omega) (by omega), sb, show ((p : Int) + (j : Int)).toNat = p + j by omega, hR.2 _ (by omega), g_308_45, sb, q16, m32, a32, a_327 (by omega) (by omega), sb, show ((16 : Int) * (k : Int) + (j : Int)).toNat = 16 * k + j by omega, hT.2 j hj]
      by_cases c2 : R.getD (p + j) 0 = A.getD j 0
      · rw [if_pos (by rw [c2]), if_neg (by rw [decide_eq_true_eq]; exact fun hn => hn c2), xlet_eq, q1, a32]; rfl
      · rw [if_neg (by rw [eq32 (by omega) (by omega) (by omega) (by omega)]; omega), if_pos (decide_eq_true c2)]
    · unfold fLX12_isThere_19
      rw [g_308_46, sb, a_328 (by omega) (by omega), sb, tn0, hT.1, if_pos (by rw [le32 (by omega) (by omega) (by omega) (by omega)]; omega)]
  · rw [if_neg (by rw [le32 (by omega) (by omega) (by omega) (by omega)]; omega), if_neg (fun h9 => ?_)]
    have := congrArg List.length h9
    unfold ztk at this
    rw [List.length_take, List.length_drop] at this
    omega
theorem r_draws {ev : Nat} {v : Int32} (he : s.1 308 44 = i32 (ev : Int)) (hn : ev < 656) : ∃ s', fX12_draws (M h s) (h + 308) v = some (i32 (ev : Int), M h s') ∧ Fy [325, 326] [44] s s' ∧ s'.1 308 44 = i32 ((ev + 1 : Nat) : Int) ∧ s'.1 325 = upd (s.1 325) ev v ∧ s'.1 326 = upd (s.1 326) ev (-1) := by
  obtain ⟨s1, es1⟩ : ∃ s1, s1 = mI s 325 (upd (s.1 325) ev v) := ⟨_, rfl⟩
  obtain ⟨s2, es2⟩ : ∃ s2, s2 = mI s1 326 (upd (s1.1 326) ev (-1)) := ⟨_, rfl⟩
  have a1 : s1.1 308 44 = i32 (ev : Int) := by rw [es1, mI_ne (by decide)]; exact he
  have a2 : s2.1 308 44 = i32 (ev : Int) := by rw [es2, mI_ne (by decide)]; exact a1
  have f2 : Fy [325, 326] [44] s s2 := by rw [es2, es1]; exact (Fy.rf.mI (by decide) (by decide)).mI (by decide) (by decide)
  refine ⟨mI s2 308 (upd (s2.1 308) 44 (i32 ((ev + 1 : Nat) : Int))), ?_, f2.fI (by decide), by rw [mI_at, upd_at], ?_, ?_⟩
  · have w1 : sI (M h s) (h + 325) (i32 (ev : Int)) v = some (M h s1) := by rw [s_325 (by omega) (by omega), tn0, es1]
    have w2 : sI (M h s1) (h + 326) (i32 (ev : Int)) (-1) = some (M h s2) := by rw [s_326 (by omega) (by omega), tn0, es2]
    unfold fX12_draws
    rw [g_308_42, sb, g_308_44, sb, he, w1, sb, g_308_43, sb, g_308_44, sb, a1, w2, sb, g_308_44, sb, a2, q1, a32, w_308_44, sb, g_308_44, sb, mI_at, upd_at, s32]
    show some (i32 ((ev : Int) + 1 - 1), _) = _
    rw [show (ev : Int) + 1 - 1 = (ev : Int) by omega]; rfl
  · rw [mI_ne (by decide), es2, mI_ne (by decide), es1, mI_at]
  · rw [mI_ne (by decide), es2, mI_at, es1, mI_ne (by decide)]
end ZR
