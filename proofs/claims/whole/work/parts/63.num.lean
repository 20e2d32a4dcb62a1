/-! NUMBERS: i32, i64 of an integer; what is left of the machine's arithmetic is arithmetic of Int -/
def i32 (a : Int) : Int32 := Int32.ofInt a
def i64 (a : Int) : Int64 := Int64.ofInt a
theorem l32 (n : Nat) : (OfNat.ofNat n : Int32) = i32 (OfNat.ofNat n) := rfl
theorem l64 (n : Nat) : (OfNat.ofNat n : Int64) = i64 (OfNat.ofNat n) := rfl
theorem a32 (a b : Int) : i32 a + i32 b = i32 (a + b) := (Int32.ofInt_add a b).symm
theorem s32 (a b : Int) : i32 a - i32 b = i32 (a - b) := (Int32.ofInt_sub a b).symm
theorem m32 (a b : Int) : i32 a * i32 b = i32 (a * b) := (Int32.ofInt_mul a b).symm
theorem ng32 (a : Int) : - i32 a = i32 (-a) := (Int32.ofInt_neg a).symm
theorem a64 (a b : Int) : i64 a + i64 b = i64 (a + b) := (Int64.ofInt_add a b).symm
theorem s64 (a b : Int) : i64 a - i64 b = i64 (a - b) := (Int64.ofInt_sub a b).symm
theorem m64 (a b : Int) : i64 a * i64 b = i64 (a * b) := (Int64.ofInt_mul a b).symm
theorem ng64 (a : Int) : - i64 a = i64 (-a) := (Int64.ofInt_neg a).symm
def b32 (a : Int) : Prop := -2147483648 ≤ a ∧ a ≤ 2147483647
theorem t32 {a : Int} (h1 : -2147483648 ≤ a) (h2 : a ≤ 2147483647) : (i32 a).toInt = a := Int32.toInt_ofInt_of_le (by omega) (by omega)
theorem t64 {a : Int} (h1 : -9223372036854775808 ≤ a) (h2 : a ≤ 9223372036854775807) : (i64 a).toInt = a := Int64.toInt_ofInt_of_le (by omega) (by omega)
theorem lt32 {a b : Int} (h1 : -2147483648 ≤ a) (h2 : a ≤ 2147483647) (h3 : -2147483648 ≤ b) (h4 : b ≤ 2147483647) : (i32 a < i32 b) = (a < b) := by
  rw [Int32.lt_iff_toInt_lt, t32 h1 h2, t32 h3 h4]
theorem le32 {a b : Int} (h1 : -2147483648 ≤ a) (h2 : a ≤ 2147483647) (h3 : -2147483648 ≤ b) (h4 : b ≤ 2147483647) : (i32 a ≤ i32 b) = (a ≤ b) := by
  rw [Int32.le_iff_toInt_le, t32 h1 h2, t32 h3 h4]
theorem eq32 {a b : Int} (h1 : -2147483648 ≤ a) (h2 : a ≤ 2147483647) (h3 : -2147483648 ≤ b) (h4 : b ≤ 2147483647) : (i32 a = i32 b) = (a = b) := by
  rw [← Int32.toInt_inj, t32 h1 h2, t32 h3 h4]
theorem lt64 {a b : Int} (h1 : -9223372036854775808 ≤ a) (h2 : a ≤ 9223372036854775807) (h3 : -9223372036854775808 ≤ b) (h4 : b ≤ 9223372036854775807) : (i64 a < i64 b) = (a < b) := by
  rw [Int64.lt_iff_toInt_lt, t64 h1 h2, t64 h3 h4]
theorem eq64 {a b : Int} (h1 : -9223372036854775808 ≤ a) (h2 : a ≤ 9223372036854775807) (h3 : -9223372036854775808 ≤ b) (h4 : b ≤ 9223372036854775807) : (i64 a = i64 b) = (a = b) := by
  rw [← Int64.toInt_inj, t64 h1 h2, t64 h3 h4]
theorem cmp0 (x y : Int64) : (lg_cmp x y = 0) = (x = y) := by
  unfold lg_cmp
  split
  · rename_i h
    refine propext ⟨fun h2 => absurd h2 (by decide), fun h2 => ?_⟩
    subst h2
    exact absurd h (by rw [gt_iff_lt, Int64.lt_iff_toInt_lt]; omega)
  · split
    · rename_i h; simp [h]
    · rename_i h; simp only [h]; exact propext ⟨fun h2 => absurd h2 (by decide), fun h2 => h2.elim⟩
theorem cmple (x y : Int64) : (lg_cmp x y ≤ 0) = (x.toInt ≤ y.toInt) := by
  unfold lg_cmp
  split
  · rename_i h
    rw [gt_iff_lt, Int64.lt_iff_toInt_lt] at h
    exact propext ⟨fun h2 => absurd h2 (by decide), fun h2 => by omega⟩
  · rename_i h
    rw [gt_iff_lt, Int64.lt_iff_toInt_lt] at h
    split <;> exact propext ⟨fun _ => by omega, fun _ => by decide⟩
theorem cmplt (x y : Int64) : (lg_cmp x y < 0) = (x.toInt < y.toInt) := by
  unfold lg_cmp
  split
  · rename_i h
    rw [gt_iff_lt, Int64.lt_iff_toInt_lt] at h
    exact propext ⟨fun h2 => absurd h2 (by decide), fun h2 => by omega⟩
  · rename_i h
    rw [gt_iff_lt, Int64.lt_iff_toInt_lt] at h
    split
    · rename_i h3; subst h3; exact propext ⟨fun h2 => absurd h2 (by decide), fun h2 => by omega⟩
    · rename_i h3
      rw [← Int64.toInt_inj] at h3
      exact propext ⟨fun _ => by omega, fun _ => by decide⟩
theorem cmpgt (x y : Int64) : (0 < lg_cmp x y) = (y.toInt < x.toInt) := by
  unfold lg_cmp
  split
  · rename_i h
    rw [gt_iff_lt, Int64.lt_iff_toInt_lt] at h
    exact propext ⟨fun _ => h, fun _ => by decide⟩
  · rename_i h
    rw [gt_iff_lt, Int64.lt_iff_toInt_lt] at h
    split <;> exact propext ⟨fun h2 => absurd h2 (by decide), fun h2 => absurd h2 h⟩
theorem cmpge (x y : Int64) : (0 ≤ lg_cmp x y) = (y.toInt ≤ x.toInt) := by
  unfold lg_cmp
  split
  · rename_i h
    rw [gt_iff_lt, Int64.lt_iff_toInt_lt] at h
    exact propext ⟨fun _ => by omega, fun _ => by decide⟩
  · rename_i h
    rw [gt_iff_lt, Int64.lt_iff_toInt_lt] at h
    split
    · rename_i h3; subst h3; exact propext ⟨fun _ => by omega, fun _ => by decide⟩
    · rename_i h3
      rw [← Int64.toInt_inj] at h3
      exact propext ⟨fun h2 => absurd h2 (by decide), fun h2 => by omega⟩
theorem toL {a : Int} (h1 : -2147483648 ≤ a) (h2 : a ≤ 2147483647) : (i32 a).toInt64 = i64 a := Int32.toInt64_ofInt h1 h2
theorem toI (a : Int) : (i64 a).toInt32 = i32 a := Int64.toInt32_ofInt
theorem div64 {a b : Nat} (ha : a < 9223372036854775808) (hb : b < 9223372036854775808) : i64 (a : Int) / i64 (b : Int) = i64 ((a / b : Nat) : Int) := by
  have h := Nat.div_le_self a b
  have h5 : (0 : Int) ≤ ((a / b : Nat) : Int) := Int.natCast_nonneg _
  have h6 : ((a / b : Nat) : Int) ≤ 9223372036854775807 := by
    have : ((a / b : Nat) : Int) ≤ (a : Int) := by exact_mod_cast h
    omega
  apply Int64.toInt_inj.mp
  rw [Int64.toInt_div, t64 (by omega) (by omega), t64 (by omega) (by omega), t64 (by omega) h6]
  rw [Int.tdiv_eq_ediv_of_nonneg (by omega)]
  rw [← Int.natCast_ediv]
  generalize ((a / b : Nat) : Int) = q at *
  rw [Int.bmod_eq_of_le (by omega) (by omega)]
theorem clampN {a : Nat} (h : a ≤ 2147483647) : (i32 (a : Int)).toNatClampNeg = a := by
  show (i32 (a : Int)).toInt.toNat = a
  rw [t32 (by omega) (by omega)]; rfl
theorem bv64 (a : Nat) : (i64 (a : Int)).toBitVec = BitVec.ofNat 64 a := by
  unfold i64; rw [Int64.toBitVec_ofInt]; exact BitVec.ofInt_natCast 64 a
theorem and64 (a b : Nat) : i64 (a : Int) &&& i64 (b : Int) = i64 ((a &&& b : Nat) : Int) := by
  apply Int64.toBitVec_inj.mp
  rw [Int64.toBitVec_and, bv64, bv64, bv64]
  apply BitVec.eq_of_toNat_eq
  simp [BitVec.toNat_and, Nat.and_mod_two_pow]
theorem or64 (a b : Nat) : i64 (a : Int) ||| i64 (b : Int) = i64 ((a ||| b : Nat) : Int) := by
  apply Int64.toBitVec_inj.mp
  rw [Int64.toBitVec_or, bv64, bv64, bv64]
  apply BitVec.eq_of_toNat_eq
  simp [BitVec.toNat_or, Nat.or_mod_two_pow]
theorem xor64 (a b : Nat) : i64 (a : Int) ^^^ i64 (b : Int) = i64 ((a ^^^ b : Nat) : Int) := by
  apply Int64.toBitVec_inj.mp
  rw [Int64.toBitVec_xor, bv64, bv64, bv64]
  apply BitVec.eq_of_toNat_eq
  simp [BitVec.toNat_xor, Nat.xor_mod_two_pow]
theorem and63 {s : Nat} (hs : s < 64) : (s &&& 63) = s := by
  rw [show (63 : Nat) = 2 ^ 6 - 1 from rfl, Nat.and_two_pow_sub_one_eq_mod]; omega
theorem shl64 {a s : Nat} (hs : s < 64) : i64 (a : Int) <<< (i64 (s : Int) &&& 63) = i64 ((a * 2 ^ s : Nat) : Int) := by
  rw [show (63 : Int64) = i64 ((63 : Nat) : Int) from rfl, and64, and63 hs]
  apply Int64.toBitVec_inj.mp
  rw [Int64.toBitVec_shiftLeft, bv64, bv64, bv64]
  apply BitVec.eq_of_toNat_eq
  have h1 : ((BitVec.ofNat 64 s).smod 64) = BitVec.ofNat 64 s := by
    apply BitVec.eq_of_toInt_eq
    rw [BitVec.toInt_smod]
    have h2 : (BitVec.ofNat 64 s).toInt = s := by
      rw [BitVec.toInt_eq_toNat_of_lt (by simp; omega)]; simp; omega
    rw [h2]
    show Int.fmod (s : Int) 64 = s
    rw [Int.fmod_eq_emod_of_nonneg _ (by omega)]
    omega
  rw [h1]
  simp [BitVec.toNat_shiftLeft, Nat.shiftLeft_eq, Nat.mod_eq_of_lt (show s < 18446744073709551616 by omega)]
theorem ushr64 {a s : Nat} (ha : a < 9223372036854775808) (hs : s < 64) : ((i64 (a : Int)).toUInt64 >>> ((i64 (s : Int)).toUInt64 &&& Int64.toUInt64 63)).toInt64 = i64 ((a / 2 ^ s : Nat) : Int) := by
  have h2 : ∀ x : Nat, x < 9223372036854775808 → (i64 (x : Int)).toUInt64.toNat = x := by
    intro x hx
    show (i64 (x : Int)).toBitVec.toNat = x
    rw [bv64]; simp; omega
  apply Int64.toBitVec_inj.mp
  rw [bv64]
  show ((i64 (a : Int)).toUInt64 >>> ((i64 (s : Int)).toUInt64 &&& Int64.toUInt64 63)).toBitVec = _
  apply BitVec.eq_of_toNat_eq
  show ((i64 (a : Int)).toUInt64 >>> ((i64 (s : Int)).toUInt64 &&& Int64.toUInt64 63)).toNat = _
  rw [UInt64.toNat_shiftRight, UInt64.toNat_and, h2 a ha, h2 s (by omega), show (Int64.toUInt64 63).toNat = 63 from rfl, and63 hs, Nat.mod_eq_of_lt hs, Nat.shiftRight_eq_div_pow]
  have := Nat.div_le_self a (2 ^ s)
  generalize a / 2 ^ s = q at *
  simp; omega
/-! total correctness over Option -/
def Ev {α : Type} (a : Option α) (Q : α → Prop) : Prop := ∃ v, a = some v ∧ Q v
section EV
variable {α β : Type} {a : Option α} {Q : β → Prop} {R : α → Prop}
theorem Ev.ret {α : Type} {v : α} {Q : α → Prop} (h : Q v) : Ev (some v) Q := ⟨v, rfl, h⟩
theorem Ev.bind {f : α → Option β} (h : Ev a R) (k : ∀ v, R v → Ev (f v) Q) : Ev (a.bind f) Q := by
  obtain ⟨v, rfl, hv⟩ := h
  exact k v hv
theorem Ev.beq {f : α → Option β} {v : α} (h : a = some v) (k : Ev (f v) Q) : Ev (a.bind f) Q := by
  subst h
  exact k
theorem Ev.lt {f : α → Option β} {v : α} (k : Ev (f v) Q) : Ev (xlet v f) Q := k
theorem Ev.ite {c : Prop} [Decidable c] {a b : Option α} {Q : α → Prop} (h1 : c → Ev a Q) (h2 : ¬ c → Ev b Q) : Ev (if c then a else b) Q := by
  split
  · exact h1 ‹_›
  · exact h2 ‹_›
theorem Ev.pos {c : Prop} [Decidable c] {a b : Option α} {Q : α → Prop} (hc : c) (h : Ev a Q) : Ev (if c then a else b) Q := by rw [if_pos hc]; exact h
theorem Ev.neg {c : Prop} [Decidable c] {a b : Option α} {Q : α → Prop} (hc : ¬ c) (h : Ev b Q) : Ev (if c then a else b) Q := by rw [if_neg hc]; exact h
theorem Ev.mono {α : Type} {a : Option α} {Q R : α → Prop} (h : Ev a R) (k : ∀ v, R v → Q v) : Ev a Q := by
  obtain ⟨v, h1, h2⟩ := h
  exact ⟨v, h1, k v h2⟩
theorem Ev.of {α : Type} {a : Option α} {v : α} {Q : α → Prop} (h : a = some v) (k : Q v) : Ev a Q := ⟨v, h, k⟩
theorem Ev.eq {α : Type} {a : Option α} {v : α} (h : Ev a (fun r => r = v)) : a = some v := by
  obtain ⟨w, h1, rfl⟩ := h
  exact h1
theorem Ev.loop {f : α → Option (α ⊕ β)} (m : α → Nat) (I : α → Prop) (h : ∀ a, I a → Ev (f a) (fun r => match r with | .inl a' => I a' ∧ m a' < m a | .inr b => Q b)) {a : α} (h0 : I a) : Ev (iterP f a) Q := by
  have key : ∀ (n : Nat) (a : α), m a < n → I a → Ev (iterP f a) Q := by
    intro n
    induction n with
    | zero => intro a h1; omega
    | succ n ih =>
      intro a h1 h2
      obtain ⟨r, h3, h4⟩ := h a h2
      rw [iterP_eq, h3]
      cases r with
      | inl a' => exact ih a' (by have := h4.2; omega) h4.1
      | inr b => exact ⟨b, rfl, h4⟩
  exact key (m a + 1) a (by omega) h0
/-- a counting loop: 'k' of 'n' rounds are done in state 'a' -/
theorem Ev.count {f : α → Option (α ⊕ β)} (n : Nat) (I : Nat → α → Prop) (h : ∀ k a, k < n → I k a → Ev (f a) (fun r => match r with | .inl a' => I (k + 1) a' | .inr b => Q b)) (h9 : ∀ a, I n a → Ev (f a) (fun r => match r with | .inl _ => False | .inr b => Q b)) {a : α} (h0 : I 0 a) : Ev (iterP f a) Q := by
  have key : ∀ (d k : Nat) (a : α), d + k = n → I k a → Ev (iterP f a) Q := by
    intro d
    induction d with
    | zero =>
      intro k a hk hI
      rw [Nat.zero_add] at hk
      subst hk
      obtain ⟨r, h3, h4⟩ := h9 a hI
      rw [iterP_eq, h3]
      cases r with
      | inl a' => exact h4.elim
      | inr b => exact ⟨b, rfl, h4⟩
    | succ d ih =>
      intro k a hk hI
      obtain ⟨r, h3, h4⟩ := h k a (by omega) hI
      rw [iterP_eq, h3]
      cases r with
      | inl a' => exact ih (k + 1) a' (by omega) h4
      | inr b => exact ⟨b, rfl, h4⟩
  exact key n 0 a (by omega) h0
end EV
/-! the heap's readers and writers -/
section HP
variable {σ : St} {q ci j n k kd : Nat} {fs : List Value} {e : Int}
theorem xu_at {e : xE} : xu σ q e q = some e := if_pos rfl
theorem xu_ne {e : xE} {p : Nat} (h : p ≠ q) : xu σ q e p = σ p := if_neg h
theorem gI_of {v : Int32} (h : σ q = some (.inr (ci, fs))) (h2 : fs[j]? = some (.int v)) : gI σ q ci j = some v := by
  unfold gI rdF; rw [h]; simp [h2]
theorem gL_of {v : Int64} (h : σ q = some (.inr (ci, fs))) (h2 : fs[j]? = some (.long v)) : gL σ q ci j = some v := by
  unfold gL rdF; rw [h]; simp [h2]
theorem gR_of {v : Nat} (h : σ q = some (.inr (ci, fs))) (h2 : fs[j]? = some (.ref v)) : gR σ q ci j = some v := by
  unfold gR rdF; rw [h]; simp [h2]
theorem isO_of (h : σ q = some (.inr (ci, fs))) : isO σ q ci = some () := by
  unfold isO; rw [h]; simp
theorem wrF_of {v : Value} (h : σ q = some (.inr (ci, fs))) (h2 : j < fs.length) : wrF σ q ci j v = some (xu σ q (.inr (ci, fs.set j v))) := by
  unfold wrF; rw [h]; simp [h2]
theorem ix_ok {n k : Nat} {e : Int} (he : e = (k : Int)) (hk : k < n) (hn : n ≤ 2147483647) : ¬ (i32 e < 0 ∨ n ≤ (i32 e).toNatClampNeg) ∧ (i32 e).toNatClampNeg = k := by
  subst he
  rw [clampN (by omega), show (0 : Int32) = i32 0 from rfl, lt32 (by omega) (by omega) (by omega) (by omega)]
  exact ⟨by omega, rfl⟩
theorem aI_of {f : Nat → Int32} (h : σ q = some (.inl (kd, n, .inl f))) (k : Nat) (he : e = (k : Int)) (hk : k < n) (hn : n ≤ 2147483647) : aI σ q kd (i32 e) = some (f k) := by
  unfold aI arI; rw [h]
  obtain ⟨h1, h2⟩ := ix_ok he hk hn
  simp only [if_true, Option.bind_some]
  rw [if_neg h1, h2]
theorem aL_of {f : Nat → Int64} (h : σ q = some (.inl (1, n, .inr (.inl f)))) (k : Nat) (he : e = (k : Int)) (hk : k < n) (hn : n ≤ 2147483647) : aL σ q (i32 e) = some (f k) := by
  unfold aL arL; rw [h]
  obtain ⟨h1, h2⟩ := ix_ok he hk hn
  simp only [if_true, Option.bind_some]
  rw [if_neg h1, h2]
theorem aR_of {f : Nat → Option Nat} {v : Nat} (h : σ q = some (.inl (3, n, .inr (.inr (.inr (.inr f)))))) (k : Nat) (he : e = (k : Int)) (hk : k < n) (hn : n ≤ 2147483647) (hv : f k = some v) : aR σ q (i32 e) = some v := by
  unfold aR arR; rw [h]
  obtain ⟨h1, h2⟩ := ix_ok he hk hn
  simp only [if_true, Option.bind_some]
  rw [if_neg h1, h2, hv]
theorem sI_of {f : Nat → Int32} {v : Int32} (h : σ q = some (.inl (0, n, .inl f))) (k : Nat) (he : e = (k : Int)) (hk : k < n) (hn : n ≤ 2147483647) : sI σ q (i32 e) v = some (xu σ q (.inl (0, n, .inl (upd f k v)))) := by
  unfold sI arI; rw [h]
  obtain ⟨h1, h2⟩ := ix_ok he hk hn
  simp only [if_true, Option.bind_some]
  rw [if_neg h1, h2]
theorem sB_of {f : Nat → Int32} {v : Int32} (h : σ q = some (.inl (2, n, .inl f))) (k : Nat) (he : e = (k : Int)) (hk : k < n) (hn : n ≤ 2147483647) : sB σ q (i32 e) v = some (xu σ q (.inl (2, n, .inl (upd f k (vp_nar .byte v))))) := by
  unfold sB arI; rw [h]
  obtain ⟨h1, h2⟩ := ix_ok he hk hn
  simp only [if_true, Option.bind_some]
  rw [if_neg h1, h2]
theorem sL_of {f : Nat → Int64} {v : Int64} (h : σ q = some (.inl (1, n, .inr (.inl f)))) (k : Nat) (he : e = (k : Int)) (hk : k < n) (hn : n ≤ 2147483647) : sL σ q (i32 e) v = some (xu σ q (.inl (1, n, .inr (.inl (vp_updL f k v))))) := by
  unfold sL arL; rw [h]
  obtain ⟨h1, h2⟩ := ix_ok he hk hn
  simp only [if_true, Option.bind_some]
  rw [if_neg h1, h2]
end HP
/-! loops that count -/
theorem iter_to {α β : Type} {f : α → Option (α ⊕ β)} {a : α} {b : β} (m : Nat) (st : Nat → α) (h0 : a = st 0) (hs : ∀ k, k < m → f (st k) = some (.inl (st (k + 1)))) (he : f (st m) = some (.inr b)) : iterP f a = some b := by
  subst h0
  have key : ∀ d k, d + k = m → iterP f (st k) = some b := by
    intro d
    induction d with
    | zero =>
      intro k hk
      have hk : k = m := by omega
      subst hk
      rw [iterP_eq, he]; rfl
    | succ d ih =>
      intro k hk
      rw [iterP_eq, hs k (by omega)]
      exact ih (k + 1) (by omega)
  exact key m 0 (by omega)
theorem xlet_eq {α β : Type} (v : α) (f : α → Option β) : xlet v f = f v := Eq.trans (congrArg (fun g => xlet v g) (Eq.refl f)) (Eq.refl (f v))
theorem some_bind {α β : Type} (v : α) (f : α → Option β) : (some v).bind f = f v := rfl
theorem bind_of {α β : Type} {o : Option α} {v : α} {f : α → Option β} (h : o = some v) : o.bind f = f v := by rw [h]; rfl
theorem tn1 (k : Nat) : ((k : Int) + 1).toNat = k + 1 := rfl
theorem tn0 (k : Nat) : ((k : Int)).toNat = k := rfl
theorem ushr64e {a : Nat} {e : Int} (s : Nat) (he : e = (s : Int)) (ha : a < 9223372036854775808) (hs : s < 64) : ((i64 (a : Int)).toUInt64 >>> ((i64 e).toUInt64 &&& Int64.toUInt64 63)).toInt64 = i64 ((a / 2 ^ s : Nat) : Int) := by
  subst he; exact ushr64 ha hs
theorem p8 (k : Nat) : 2 ^ (3 * k) = 8 ^ k := by rw [Nat.pow_mul]
theorem sh3 {k : Nat} (hk : k ≤ 1000) : ((3 : Int32) * i32 (k : Int)).toInt64 = i64 ((3 * k : Nat) : Int) := by
  rw [show (3 : Int32) = i32 3 from rfl, m32, toL (by omega) (by omega)]; rfl
theorem sh48 : (48 : Int32).toInt64 = i64 ((48 : Nat) : Int) := by decide
theorem lb48 {a : Nat} : i64 (a : Int) &&& 281474976710655 = i64 ((a % 281474976710656 : Nat) : Int) := by
  rw [show (281474976710655 : Int64) = i64 ((281474976710655 : Nat) : Int) from by decide, and64]
  rw [show (281474976710655 : Nat) = 2 ^ 48 - 1 from by decide, Nat.and_two_pow_sub_one_eq_mod]
theorem mask3 {k : Nat} (hk : k ≤ 16) : ((1 : Int64) <<< (((3 : Int32) * i32 (k : Int)).toInt64 &&& 63)) - 1 = i64 ((2 ^ (3 * k) - 1 : Nat) : Int) := by
  rw [sh3 (by omega), show (1 : Int64) = i64 ((1 : Nat) : Int) from by decide, shl64 (by omega), s64, Nat.one_mul]
  have : 1 ≤ 2 ^ (3 * k) := Nat.one_le_two_pow
  rw [show ((2 ^ (3 * k) - 1 : Nat) : Int) = ((2 ^ (3 * k) : Nat) : Int) - ((1 : Nat) : Int) from by omega]
theorem andm {a k : Nat} : i64 (a : Int) &&& i64 ((2 ^ k - 1 : Nat) : Int) = i64 ((a % 2 ^ k : Nat) : Int) := by
  rw [and64, Nat.and_two_pow_sub_one_eq_mod]
theorem orm {a b k : Nat} (h : a < 2 ^ k) : i64 (a : Int) ||| i64 ((b * 2 ^ k : Nat) : Int) = i64 ((a + b * 2 ^ k : Nat) : Int) := by
  rw [or64, Nat.or_comm, Nat.mul_comm b, ← Nat.two_pow_add_eq_or_of_lt h, Nat.add_comm]
theorem rem64 {a b : Nat} (ha : a < 9223372036854775808) (hb : b < 9223372036854775808) : i64 (a : Int) - i64 (a : Int) / i64 (b : Int) * i64 (b : Int) = i64 ((a % b : Nat) : Int) := by
  rw [div64 ha hb, m64, s64]
  congr 1
  have := Nat.mod_add_div a b
  have h2 : ((a / b : Nat) : Int) * (b : Int) = ((b * (a / b) : Nat) : Int) := by rw [Nat.mul_comm]; simp
  rw [h2]; omega
