/-! FEED in both -/
theorem and255 (y : Int32) : y &&& 255 = i32 ((y.toBitVec.toNat % 256 : Nat) : Int) := by
  apply Int32.toBitVec_inj.mp
  rw [Int32.toBitVec_and, bv32]
  apply BitVec.eq_of_toNat_eq
  rw [BitVec.toNat_and, show (Int32.toBitVec 255).toNat = 2 ^ 8 - 1 from by decide, Nat.and_two_pow_sub_one_eq_mod, BitVec.toNat_ofNat]
  omega
def byt (x : Int32) (k : Nat) : Nat := x.toBitVec.toNat / 2 ^ k % 256
theorem byt_lt (x : Int32) (k : Nat) : byt x k < 256 := Nat.mod_lt _ (by decide)
theorem byt_c (x : Int32) {k : Nat} (hk : k < 32) : ((x.toUInt32 >>> ((i32 (k : Int)).toUInt32 &&& Int32.toUInt32 31)).toInt32) &&& 255 = i32 (byt x k : Int) := by
  rw [and255]
  have h1 : ((x.toUInt32 >>> ((i32 (k : Int)).toUInt32 &&& Int32.toUInt32 31)).toInt32).toBitVec.toNat = x.toBitVec.toNat / 2 ^ k := by
    show (x.toUInt32 >>> ((i32 (k : Int)).toUInt32 &&& Int32.toUInt32 31)).toNat = _
    have h2 : (i32 (k : Int)).toUInt32.toNat = k := by
      show (i32 (k : Int)).toBitVec.toNat = k
      rw [bv32]; simp; omega
    rw [UInt32.toNat_shiftRight, UInt32.toNat_and, h2, show (Int32.toUInt32 31).toNat = 2 ^ 5 - 1 from rfl, Nat.and_two_pow_sub_one_eq_mod, Nat.mod_eq_of_lt (by omega), Nat.mod_eq_of_lt hk, Nat.shiftRight_eq_div_pow]; rfl
  rw [h1]; rfl
theorem sg_dec : ∀ b : Nat, b < 256 → (Int8.ofBitVec (BitVec.ofNat 8 b)).toInt32 = i32 (sg8 b) ∧ (i32 (sg8 b)).toInt8.toInt32 = i32 (sg8 b) := by decide +kernel
theorem byt_r (x : Int32) {k : Nat} (hk : k ≤ 24) : vp_nar .byte ((x >>> (i32 (k : Int) &&& 31)).toInt8.toInt32) = i32 (sg8 (byt x k)) := by
  have h1 : (x >>> (i32 (k : Int) &&& 31)).toInt8 = Int8.ofBitVec (BitVec.ofNat 8 (byt x k)) := by
    apply Int8.toBitVec_inj.mp
    rw [and31 (by omega), Int32.toBitVec_toInt8, Int32.toBitVec_shiftRight, bv32, smod32 (by omega), BitVec.signExtend_eq_setWidth_of_le _ (by decide)]
    show (x.toBitVec.sshiftRight (BitVec.ofNat 32 k).toNat).setWidth 8 = BitVec.ofNat 8 (byt x k)
    apply BitVec.eq_of_getLsbD_eq
    intro i hi
    rw [BitVec.getLsbD_setWidth, BitVec.getLsbD_ofNat, BitVec.toNat_ofNat, Nat.mod_eq_of_lt (show k < 2 ^ 32 by omega), BitVec.getLsbD_sshiftRight, decide_eq_true hi, Bool.true_and, Bool.true_and, decide_eq_false (by omega), Bool.not_false, Bool.true_and, if_pos (by omega)]
    unfold byt
    rw [show (256 : Nat) = 2 ^ 8 from rfl, Nat.testBit_mod_two_pow, decide_eq_true hi, Bool.true_and, Nat.testBit_div_two_pow, Nat.add_comm]
    rfl
  show (x >>> (i32 (k : Int) &&& 31)).toInt8.toInt32.toInt8.toInt32 = _
  rw [h1, (sg_dec _ (byt_lt x k)).1, (sg_dec _ (byt_lt x k)).2]
def b4 (x : Int32) : List Nat := [byt x 24, byt x 16, byt x 8, byt x 0]
theorem b4_take (x : Int32) {m : Nat} (hm : m < 4) : (b4 x).take (m + 1) = (b4 x).take m ++ [byt x (24 - 8 * m)] := by
  rcases (show m = 0 ∨ m = 1 ∨ m = 2 ∨ m = 3 by omega) with rfl | rfl | rfl | rfl <;> rfl
def TPc (s : Mm) (B : List Nat) : Prop := s.1 0 1 = i32 (B.length : Int) ∧ ∀ j, j < B.length → s.1 1 j = i32 (bt B j : Int)
def TPq (s : Mm) (B : List Nat) : Prop := s.1 308 7 = i32 (B.length : Int) ∧ ∀ j, j < B.length → s.1 312 j = i32 (sg8 (bt B j))
theorem bt_app1 {B C : List Nat} {j : Nat} (hj : j < B.length) : bt (B ++ C) j = bt B j := getD_app1 hj
theorem bt_app2 {B : List Nat} {x : Nat} : bt (B ++ [x]) B.length = x := getD_app2
/-- only the tape changed: in the class, in the reference -/
def FtC (s s' : Mm) : Prop := s'.2 = s.2 ∧ (∀ i, i ≠ 0 → i ≠ 1 → s'.1 i = s.1 i) ∧ (∀ j, j ≠ 1 → s'.1 0 j = s.1 0 j)
def FtR (s s' : Mm) : Prop := s'.2 = s.2 ∧ (∀ i, i ≠ 308 → i ≠ 312 → s'.1 i = s.1 i) ∧ (∀ j, j ≠ 7 → s'.1 308 j = s.1 308 j)
section FD
variable {h : Nat} {s : Mm} {B : List Nat}
theorem FtC.rf : FtC s s := ⟨rfl, fun _ _ _ => rfl, fun _ _ => rfl⟩
theorem FtC.tr {s' s'' : Mm} (h1 : FtC s s') (h2 : FtC s' s'') : FtC s s'' := ⟨h2.1.trans h1.1, fun i a b => (h2.2.1 i a b).trans (h1.2.1 i a b), fun j a => (h2.2.2 j a).trans (h1.2.2 j a)⟩
theorem FtR.rf : FtR s s := ⟨rfl, fun _ _ _ => rfl, fun _ _ => rfl⟩
theorem FtR.tr {s' s'' : Mm} (h1 : FtR s s') (h2 : FtR s' s'') : FtR s s'' := ⟨h2.1.trans h1.1, fun i a b => (h2.2.1 i a b).trans (h1.2.1 i a b), fun j a => (h2.2.2 j a).trans (h1.2.2 j a)⟩
theorem c_feedN (hT : TPc s B) (hl : B.length + 4 ≤ 300) (x : Int32) : ∃ s', fX11_feedNumber (M h s) (h + 0) x = some (M h s') ∧ FtC s s' ∧ TPc s' (B ++ b4 x) := by
  have key : ∃ y, iterP (fLX11_feedNumber_3 (h + 0) x) (24, M h s) = some y ∧ ∃ s', y = M h s' ∧ FtC s s' ∧ TPc s' (B ++ b4 x) := by
    refine loop_ex (fun m z => ∃ s', z = (i32 (24 - 8 * (m : Int)), M h s') ∧ FtC s s' ∧ TPc s' (B ++ (b4 x).take m)) _ 4 (fun m z hm hz => ?_) (fun z hz => ?_) ⟨s, rfl, FtC.rf, by rw [List.take_zero, List.append_nil]; exact hT⟩
    · obtain ⟨s1, rfl, f1, t1, t2⟩ := hz
      have hL : (B ++ (b4 x).take m).length = B.length + m := by rw [List.length_append, List.length_take]; show _ + min m 4 = _; omega
      rw [hL] at t1 t2
      refine ⟨(i32 (24 - 8 * ((m + 1 : Nat) : Int)), M h (mI (mI s1 1 (upd (s1.1 1) (B.length + m) (i32 (byt x (24 - 8 * m) : Int)))) 0 (upd (s1.1 0) 1 (i32 ((B.length + m + 1 : Nat) : Int))))), ?_, _, rfl, ⟨f1.1, fun i a b => by rw [mI_ne a, mI_ne b]; exact f1.2.1 i a b, fun j a => by rw [mI_at, upd_ne a]; exact f1.2.2 j a⟩, ?_, fun j hj => ?_⟩
      · have a0 : (mI s1 1 (upd (s1.1 1) (B.length + m) (i32 (byt x (24 - 8 * m) : Int)))).1 0 1 = i32 ((B.length + m : Nat) : Int) := by rw [mI_ne (by decide)]; exact t1
        unfold fLX11_feedNumber_3
        simp only []
        rw [if_neg (by rw [q0]; rw [lt32 (by omega) (by omega) (by omega) (by omega)]; omega), g_0_1, sb, t1, q300, if_neg (by rw [le32 (by omega) (by omega) (by omega) (by omega)]; omega), g_0_0, sb, sb, show i32 ((24 : Int) - 8 * (m : Int)) = i32 (((24 - 8 * m : Nat)) : Int) by congr 1; omega, byt_c x (by omega), s_1 (by omega) (by omega), sb, tn0, g_0_1, sb, a0, q1, a32, w_0_1, sb, mI_ne (by decide), xlet_eq, show (-8 : Int32) = i32 (-8) from by decide, a32]
        refine congrArg (fun z => some (Sum.inl z)) (Prod.ext ?_ rfl)
        show i32 _ = i32 _
        congr 1; omega
      · rw [mI_at, upd_at, b4_take x hm, ← List.append_assoc, List.length_append, hL]; rfl
      · rw [b4_take x hm, ← List.append_assoc] at hj ⊢
        rw [List.length_append, hL] at hj
        have hj : j < B.length + m + 1 := hj
        rw [mI_ne (by decide), mI_at]
        by_cases c : j = B.length + m
        · subst c
          have h9 := bt_app2 (B := B ++ (b4 x).take m) (x := byt x (24 - 8 * m))
          rw [hL] at h9
          rw [upd_at, h9]
        · rw [upd_ne c, bt_app1 (by rw [hL]; omega)]; exact t2 j (by omega)
    · obtain ⟨s1, rfl, f1, t1⟩ := hz
      refine ⟨M h s1, ?_, s1, rfl, f1, t1⟩
      unfold fLX11_feedNumber_3
      simp only []
      rw [if_pos (by decide)]
  obtain ⟨y, e1, s', rfl, f1⟩ := key
  refine ⟨s', ?_, f1⟩
  unfold fX11_feedNumber
  rw [e1, sb]
theorem r_comesN (hT : TPq s B) (hl : B.length + 4 ≤ 300) (x : Int32) : ∃ s', fX12_comes (M h s) (h + 308) x = some (M h s') ∧ FtR s s' ∧ TPq s' (B ++ b4 x) := by
  have key : ∃ y, iterP (fLX12_comes_3 (h + 308) x) (24, M h s) = some y ∧ ∃ s', y = M h s' ∧ FtR s s' ∧ TPq s' (B ++ b4 x) := by
    refine loop_ex (fun m z => ∃ s', z = (i32 (24 - 8 * (m : Int)), M h s') ∧ FtR s s' ∧ TPq s' (B ++ (b4 x).take m)) _ 4 (fun m z hm hz => ?_) (fun z hz => ?_) ⟨s, rfl, FtR.rf, by rw [List.take_zero, List.append_nil]; exact hT⟩
    · obtain ⟨s1, rfl, f1, t1, t2⟩ := hz
      have hL : (B ++ (b4 x).take m).length = B.length + m := by rw [List.length_append, List.length_take]; show _ + min m 4 = _; omega
      rw [hL] at t1 t2
      refine ⟨(i32 (24 - 8 * ((m + 1 : Nat) : Int)), M h (mI (mI s1 312 (upd (s1.1 312) (B.length + m) (i32 (sg8 (byt x (24 - 8 * m)))))) 308 (upd (s1.1 308) 7 (i32 ((B.length + m + 1 : Nat) : Int))))), ?_, _, rfl, ⟨f1.1, fun i a b => by rw [mI_ne a, mI_ne b]; exact f1.2.1 i a b, fun j a => by rw [mI_at, upd_ne a]; exact f1.2.2 j a⟩, ?_, fun j hj => ?_⟩
      · have a0 : (mI s1 312 (upd (s1.1 312) (B.length + m) (i32 (sg8 (byt x (24 - 8 * m)))))).1 308 7 = i32 ((B.length + m : Nat) : Int) := by rw [mI_ne (by decide)]; exact t1
        unfold fLX12_comes_3
        simp only []
        rw [if_neg (by rw [q0]; rw [lt32 (by omega) (by omega) (by omega) (by omega)]; omega), g_308_6, sb, g_308_7, sb, t1, show i32 ((24 : Int) - 8 * (m : Int)) = i32 (((24 - 8 * m : Nat)) : Int) by congr 1; omega, s_312 (by omega) (by omega), sb, tn0, byt_r x (by omega), g_308_7, sb, a0, q1, a32, w_308_7, sb, mI_ne (by decide), xlet_eq, show (-8 : Int32) = i32 (-8) from by decide, a32]
        refine congrArg (fun z => some (Sum.inl z)) (Prod.ext ?_ rfl)
        show i32 _ = i32 _
        congr 1; omega
      · rw [mI_at, upd_at, b4_take x hm, ← List.append_assoc, List.length_append, hL]; rfl
      · rw [b4_take x hm, ← List.append_assoc] at hj ⊢
        rw [List.length_append, hL] at hj
        have hj : j < B.length + m + 1 := hj
        rw [mI_ne (by decide), mI_at]
        by_cases c : j = B.length + m
        · subst c
          have h9 := bt_app2 (B := B ++ (b4 x).take m) (x := byt x (24 - 8 * m))
          rw [hL] at h9
          rw [upd_at, h9]
        · rw [upd_ne c, bt_app1 (by rw [hL]; omega)]; exact t2 j (by omega)
    · obtain ⟨s1, rfl, f1, t1⟩ := hz
      refine ⟨M h s1, ?_, s1, rfl, f1, t1⟩
      unfold fLX12_comes_3
      simp only []
      rw [if_pos (by decide)]
  obtain ⟨y, e1, s', rfl, f1⟩ := key
  refine ⟨s', ?_, f1⟩
  unfold fX12_comes
  rw [e1, sb]
theorem b4_len (x : Int32) : (b4 x).length = 4 := rfl
def b20 (a b c d e : Int32) : List Nat := b4 a ++ b4 b ++ b4 c ++ b4 d ++ b4 e
theorem c_feed (hT : TPc s B) (hB : B.length ≤ 300) (a b c d e : Int32) : ∃ s', fX11_feed (M h s) (h + 0) a b c d e = some (if B.length + 20 ≤ 300 then i32 ((B.length + 20 : Nat) : Int) else -1, M h s') ∧ FtC s s' ∧ TPc s' (if B.length + 20 ≤ 300 then B ++ b20 a b c d e else B) := by
  unfold fX11_feed
  rw [g_0_1, sb, hT.1, q20, a32, q300]
  by_cases k : B.length + 20 ≤ 300
  · obtain ⟨s1, e1, f1, t1⟩ := c_feedN (h := h) hT (by omega) a
    obtain ⟨s2, e2, f2, t2⟩ := c_feedN (h := h) t1 (by rw [List.length_append, b4_len]; omega) b
    obtain ⟨s3, e3, f3, t3⟩ := c_feedN (h := h) t2 (by rw [List.length_append, List.length_append, b4_len, b4_len]; omega) c
    obtain ⟨s4, e4, f4, t4⟩ := c_feedN (h := h) t3 (by rw [List.length_append, List.length_append, List.length_append, b4_len, b4_len, b4_len]; omega) d
    obtain ⟨s5, e5, f5, t5⟩ := c_feedN (h := h) t4 (by rw [List.length_append, List.length_append, List.length_append, List.length_append, b4_len, b4_len, b4_len, b4_len]; omega) e
    have hl5 : (B ++ b4 a ++ b4 b ++ b4 c ++ b4 d ++ b4 e).length = B.length + 20 := by
      rw [List.length_append, List.length_append, List.length_append, List.length_append, List.length_append, b4_len, b4_len, b4_len, b4_len, b4_len]
    have t51 := t5.1
    rw [hl5] at t51
    rw [if_pos (by rw [le32 (by omega) (by omega) (by omega) (by omega)]; omega), if_pos k, if_pos k, o_0, sb, e1, sb, o_0, sb, e2, sb, o_0, sb, e3, sb, o_0, sb, e4, sb, o_0, sb, e5, sb, g_0_1, sb, t51]
    refine ⟨s5, rfl, (((f1.tr f2).tr f3).tr f4).tr f5, ?_⟩
    have : B ++ b20 a b c d e = B ++ b4 a ++ b4 b ++ b4 c ++ b4 d ++ b4 e := by unfold b20; simp only [List.append_assoc]
    rw [this]; exact t5
  · rw [if_neg (by rw [le32 (by omega) (by omega) (by omega) (by omega)]; omega), if_neg k, if_neg k]
    exact ⟨s, rfl, FtC.rf, hT⟩
theorem r_feed (hT : TPq s B) (hB : B.length ≤ 300) (a b c d e : Int32) : ∃ s', fX12_feed (M h s) (h + 308) a b c d e = some (if B.length + 20 ≤ 300 then i32 ((B.length + 20 : Nat) : Int) else -1, M h s') ∧ FtR (mI s 308 (upd (s.1 308) 0 0)) s' ∧ TPq s' (if B.length + 20 ≤ 300 then B ++ b20 a b c d e else B) := by
  obtain ⟨s0, es0⟩ : ∃ s0, s0 = mI s 308 (upd (s.1 308) 0 0) := ⟨_, rfl⟩
  have hT0 : TPq s0 B := by rw [es0]; exact ⟨by rw [mI_at, upd_ne (by decide)]; exact hT.1, fun j hj => by rw [mI_ne (by decide)]; exact hT.2 j hj⟩
  unfold fX12_feed
  rw [w_308_0, sb, ← es0, g_308_7, sb, hT0.1, q20, a32, q300]
  by_cases k : B.length + 20 ≤ 300
  · obtain ⟨s1, e1, f1, t1⟩ := r_comesN (h := h) hT0 (by omega) a
    obtain ⟨s2, e2, f2, t2⟩ := r_comesN (h := h) t1 (by rw [List.length_append, b4_len]; omega) b
    obtain ⟨s3, e3, f3, t3⟩ := r_comesN (h := h) t2 (by rw [List.length_append, List.length_append, b4_len, b4_len]; omega) c
    obtain ⟨s4, e4, f4, t4⟩ := r_comesN (h := h) t3 (by rw [List.length_append, List.length_append, List.length_append, b4_len, b4_len, b4_len]; omega) d
    obtain ⟨s5, e5, f5, t5⟩ := r_comesN (h := h) t4 (by rw [List.length_append, List.length_append, List.length_append, List.length_append, b4_len, b4_len, b4_len, b4_len]; omega) e
    have hl5 : (B ++ b4 a ++ b4 b ++ b4 c ++ b4 d ++ b4 e).length = B.length + 20 := by
      rw [List.length_append, List.length_append, List.length_append, List.length_append, List.length_append, b4_len, b4_len, b4_len, b4_len, b4_len]
    have t51 := t5.1
    rw [hl5] at t51
    rw [if_pos (by rw [le32 (by omega) (by omega) (by omega) (by omega)]; omega), if_pos k, if_pos k, o_308, sb, e1, sb, o_308, sb, e2, sb, o_308, sb, e3, sb, o_308, sb, e4, sb, o_308, sb, e5, sb, g_308_7, sb, t51]
    refine ⟨s5, rfl, (((f1.tr f2).tr f3).tr f4).tr f5, ?_⟩
    have : B ++ b20 a b c d e = B ++ b4 a ++ b4 b ++ b4 c ++ b4 d ++ b4 e := by unfold b20; simp only [List.append_assoc]
    rw [this]; exact t5
  · rw [if_neg (by rw [le32 (by omega) (by omega) (by omega) (by omega)]; omega), if_neg k, if_neg k]
    exact ⟨s0, rfl, FtR.rf, hT0⟩
end FD
