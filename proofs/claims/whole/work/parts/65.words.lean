/-! WORDS: rows of letters (0 to 4). p8k: to the base of eight, the first letter lowest; cw: as the class packs them; r6: as the reference does -/
def Ww (w : List Nat) : Prop := w.length ≤ 16 ∧ ∀ x ∈ w, x < 5
def p8k : List Nat → Nat
  | [] => 0
  | x :: w => (x + 1) + 8 * p8k w
def cw (w : List Nat) : Nat := p8k w + w.length * 281474976710656
def r6 (w : List Nat) : Nat := w.foldl (fun a x => 6 * a + (x + 1)) 0
/-- the letter at k, -1 behind the last one -/
def ltr (w : List Nat) (k : Nat) : Int := match w[k]? with
  | some x => (x : Int)
  | none => -1
abbrev fitsAt (w : List Nat) (p : Nat) (u v : List Nat) : Prop := (w.drop p).take u.length = u ∧ w.length + v.length ≤ 16 + u.length
def repl (w : List Nat) (p : Nat) (u v : List Nat) : List Nat := w.take p ++ v ++ w.drop (p + u.length)
theorem Ww.nil : Ww [] := ⟨by decide, fun x hx => by cases hx⟩
theorem Ww.of {w : List Nat} (hw : Ww w) {u : List Nat} (h1 : u.length ≤ 16) (h2 : ∀ x ∈ u, x ∈ w) : Ww u := ⟨h1, fun x hx => hw.2 x (h2 x hx)⟩
theorem Ww.take {w : List Nat} (hw : Ww w) (n : Nat) : Ww (w.take n) := hw.of (by have := hw.1; simp; omega) (fun x hx => List.mem_of_mem_take hx)
theorem Ww.drop {w : List Nat} (hw : Ww w) (n : Nat) : Ww (w.drop n) := hw.of (by have := hw.1; simp; omega) (fun x hx => List.mem_of_mem_drop hx)
theorem p8k_lt : ∀ {w : List Nat}, (∀ x ∈ w, x < 5) → p8k w < 8 ^ w.length := by
  intro w
  induction w with
  | nil => intro _; simp [p8k]
  | cons x w ih =>
    intro h
    have h1 := h x (by simp)
    have h2 := ih (fun y hy => h y (by simp [hy]))
    simp only [p8k, List.length_cons, Nat.pow_succ]
    omega
theorem p8k_append (a b : List Nat) : p8k (a ++ b) = p8k a + 8 ^ a.length * p8k b := by
  induction a with
  | nil => simp [p8k]
  | cons x a ih =>
    simp only [List.cons_append, p8k, ih, List.length_cons, Nat.pow_succ, Nat.mul_add]
    rw [← Nat.mul_assoc, Nat.mul_comm 8 (8 ^ a.length)]
    omega
theorem p8k_drop {w : List Nat} (h : ∀ x ∈ w, x < 5) (p : Nat) : p8k w / 8 ^ p = p8k (w.drop p) := by
  induction p generalizing w with
  | zero => simp
  | succ p ih =>
    cases w with
    | nil => simp [p8k]
    | cons x w =>
      have h1 := h x (by simp)
      rw [Nat.pow_succ', ← Nat.div_div_eq_div_mul, List.drop_succ_cons, ← ih (fun y hy => h y (by simp [hy]))]
      congr 1
      simp only [p8k]
      omega
theorem p8k_take {w : List Nat} (h : ∀ x ∈ w, x < 5) (p : Nat) : p8k w % 8 ^ p = p8k (w.take p) := by
  by_cases hp : p ≤ w.length
  · have e := p8k_append (w.take p) (w.drop p)
    rw [List.take_append_drop, List.length_take, Nat.min_eq_left hp] at e
    rw [e, Nat.add_mul_mod_self_left]
    apply Nat.mod_eq_of_lt
    have := p8k_lt (w := w.take p) (fun x hx => h x (List.mem_of_mem_take hx))
    rw [List.length_take, Nat.min_eq_left hp] at this
    exact this
  · rw [List.take_of_length_le (by omega)]
    apply Nat.mod_eq_of_lt
    exact Nat.lt_of_lt_of_le (p8k_lt h) (Nat.pow_le_pow_right (by decide) (by omega))
theorem p8k_inj : ∀ {u v : List Nat}, (∀ x ∈ u, x < 5) → (∀ x ∈ v, x < 5) → p8k u = p8k v → u = v := by
  intro u
  induction u with
  | nil =>
    intro v _ _ h
    cases v with
    | nil => rfl
    | cons y v => simp only [p8k] at h; omega
  | cons x u ih =>
    intro v hu hv h
    cases v with
    | nil => simp only [p8k] at h; omega
    | cons y v =>
      have h1 := hu x (by simp)
      have h2 := hv y (by simp)
      simp only [p8k] at h
      have e1 : x = y := by omega
      have e2 : p8k u = p8k v := by omega
      rw [e1, ih (fun z hz => hu z (by simp [hz])) (fun z hz => hv z (by simp [hz])) e2]
theorem p16 : 8 ^ 16 = 281474976710656 := by decide
theorem p8k_48 {w : List Nat} (hw : Ww w) : p8k w < 281474976710656 := by
  rw [← p16]
  exact Nat.lt_of_lt_of_le (p8k_lt hw.2) (Nat.pow_le_pow_right (by decide) hw.1)
theorem cw_len {w : List Nat} (hw : Ww w) : cw w / 281474976710656 = w.length := by
  have := p8k_48 hw
  unfold cw; omega
theorem cw_mod {w : List Nat} (hw : Ww w) : cw w % 281474976710656 = p8k w := by
  have := p8k_48 hw
  unfold cw; omega
theorem cw_lt {w : List Nat} (hw : Ww w) : cw w < 9223372036854775808 := by
  have := p8k_48 hw
  have := hw.1
  unfold cw; omega
theorem cw_inj {u v : List Nat} (hu : Ww u) (hv : Ww v) (h : cw u = cw v) : u = v :=
  p8k_inj hu.2 hv.2 (by rw [← cw_mod hu, ← cw_mod hv, h])
theorem cwe {u v : List Nat} (hu : Ww u) (hv : Ww v) : (i64 (cw u : Int) = i64 (cw v : Int)) = (u = v) := by
  have h1 := cw_lt hu
  have h2 := cw_lt hv
  rw [eq64 (by omega) (by omega) (by omega) (by omega)]
  exact propext ⟨fun h => cw_inj hu hv (by omega), fun h => by rw [h]⟩
theorem cw_nil : i64 ((cw [] : Nat) : Int) = 0 := by decide
theorem c_l48 {w : List Nat} (hw : Ww w) : ((i64 (cw w : Int)).toUInt64 >>> ((48 : Int32).toInt64.toUInt64 &&& Int64.toUInt64 63)).toInt64 = i64 (w.length : Int) := by
  rw [sh48, ushr64 (cw_lt hw) (by decide), show (2 : Nat) ^ 48 = 281474976710656 from by decide, cw_len hw]
theorem c_l {w : List Nat} (hw : Ww w) : (((i64 (cw w : Int)).toUInt64 >>> ((48 : Int32).toInt64.toUInt64 &&& Int64.toUInt64 63)).toInt64).toInt32 = i32 (w.length : Int) := by
  rw [c_l48 hw, toI]
theorem c_len {w : List Nat} (hw : Ww w) : fX10_length (i64 (cw w : Int)) = some (i32 (w.length : Int)) := by
  unfold fX10_length; rw [c_l hw]
theorem cw_dig {w : List Nat} (hw : Ww w) {k : Nat} (hk : k < w.length) : cw w / 8 ^ k % 8 = w[k] + 1 := by
  have h16 := hw.1
  have e1 : cw w / 8 ^ k = p8k (w.drop k) + w.length * 8 ^ (16 - k) := by
    have e2 : w.length * 281474976710656 = 8 ^ k * (w.length * 8 ^ (16 - k)) := by
      rw [← p16, Nat.mul_left_comm, ← Nat.pow_add, show k + (16 - k) = 16 by omega]
    unfold cw
    rw [e2, Nat.add_mul_div_left _ _ (Nat.pow_pos (by decide)), p8k_drop hw.2]
  rw [e1, show 16 - k = (15 - k) + 1 by omega, Nat.pow_succ, ← Nat.mul_assoc, List.drop_eq_getElem_cons hk, p8k]
  have := hw.2 w[k] (List.getElem_mem hk)
  omega
theorem c_let {w : List Nat} (hw : Ww w) {k : Nat} (hk : k ≤ 2147483647) : fX10_letterOf (i64 (cw w : Int)) (i32 (k : Int)) = some (i32 (ltr w k)) := by
  have h16 := hw.1
  unfold fX10_letterOf
  rw [c_l hw]
  by_cases h : k < w.length
  · rw [if_pos (by rw [lt32 (by omega) (by omega) (by omega) (by omega)]; omega), sh3 (by omega), ushr64 (cw_lt hw) (by omega), p8, show (7 : Int64) = i64 ((2 ^ 3 - 1 : Nat) : Int) from by decide, andm, toI, show (1 : Int32) = i32 1 from rfl, s32]
    have e1 := cw_dig hw h
    rw [show (2 : Nat) ^ 3 = 8 from by decide, e1]
    unfold ltr
    rw [List.getElem?_eq_getElem h]
    congr 2
    show ((w[k] + 1 : Nat) : Int) - 1 = (w[k] : Int)
    omega
  · rw [if_neg (by rw [lt32 (by omega) (by omega) (by omega) (by omega)]; omega)]
    unfold ltr
    rw [List.getElem?_eq_none (by omega)]
    rfl
theorem p8k1 (x : Nat) : p8k [x] = x + 1 := by simp [p8k]
theorem or3 {A p d m : Nat} (hp : p < 2 ^ m) (hd : d < 8) : (A * 2 ^ (m + 3) + p) ||| (d * 2 ^ m) = A * 2 ^ (m + 3) + (p + d * 2 ^ m) := by
  have h1 : p + d * 2 ^ m < 2 ^ (m + 3) := by
    rw [Nat.pow_add, Nat.mul_comm (2 ^ m)]
    have : d * 2 ^ m ≤ 7 * 2 ^ m := Nat.mul_le_mul_right _ (by omega)
    omega
  have h2 : p < 2 ^ (m + 3) := by omega
  have h3 : p ||| d * 2 ^ m = p + d * 2 ^ m := by
    rw [Nat.or_comm, Nat.mul_comm d, ← Nat.two_pow_add_eq_or_of_lt hp, Nat.add_comm]
  rw [Nat.mul_comm A, Nat.two_pow_add_eq_or_of_lt h2, Nat.or_assoc, h3, ← Nat.two_pow_add_eq_or_of_lt h1]
theorem c_longer {w : List Nat} (hw : Ww w) {x : Nat} (hx : x < 5) (hl : w.length < 16) : fX10_longer (i64 (cw w : Int)) (i32 (x : Int)) = some (i64 (cw (w ++ [x]) : Int)) := by
  have h48 := p8k_lt hw.2
  unfold fX10_longer
  repeat rw [xlet_eq]
  rw [c_l hw, show (16 : Int32) = i32 16 from rfl, if_pos (by rw [lt32 (by omega) (by omega) (by omega) (by omega)]; omega)]
  rw [sh3 (by omega), toL (by omega) (by omega), show (1 : Int64) = i64 1 from rfl, a64, show ((x : Int) + 1) = ((x + 1 : Nat) : Int) from rfl, shl64 (by omega), show (281474976710656 : Int64) = i64 281474976710656 from rfl, a64]
  rw [show ((cw w : Int) + 281474976710656) = ((cw w + 281474976710656 : Nat) : Int) from rfl, or64]
  have e0 : (w.length + 1) * 2 ^ (45 - 3 * w.length) * 2 ^ (3 * w.length + 3) = (w.length + 1) * 281474976710656 := by
    rw [show (281474976710656 : Nat) = 2 ^ 48 from by decide, Nat.mul_assoc, ← Nat.pow_add, show 45 - 3 * w.length + (3 * w.length + 3) = 48 by omega]
  have e1 : cw w + 281474976710656 = (w.length + 1) * 2 ^ (45 - 3 * w.length) * 2 ^ (3 * w.length + 3) + p8k w := by
    rw [e0]; unfold cw; omega
  rw [e1, or3 (by rw [p8]; exact h48) (by omega), e0]
  congr 3
  unfold cw
  rw [p8k_append, p8k1, List.length_append, p8, Nat.mul_comm (x + 1)]
  simp only [List.length_cons, List.length_nil]
  omega
theorem c_full {w : List Nat} (hw : Ww w) {x : Int32} (hl : w.length = 16) : fX10_longer (i64 (cw w : Int)) x = some (i64 (cw w : Int)) := by
  unfold fX10_longer
  repeat rw [xlet_eq]
  rw [c_l hw, show (16 : Int32) = i32 16 from rfl, if_neg (by rw [lt32 (by omega) (by omega) (by omega) (by omega)]; omega)]
theorem cw_mk {X : List Nat} (hX : Ww X) {n : Nat} (hn : X.length = n) : i64 (p8k X : Int) ||| (i64 (n : Int) <<< (i64 ((48 : Nat) : Int) &&& 63)) = i64 (cw X : Int) := by
  rw [shl64 (by decide), orm (by have := p8k_48 hX; omega)]
  unfold cw
  rw [hn]
theorem c_part {w : List Nat} (hw : Ww w) {p n : Nat} (hp : p + n ≤ w.length) : fX10_part (i64 (cw w : Int)) (i32 (p : Int)) (i32 (n : Int)) = some (i64 (cw ((w.drop p).take n) : Int)) := by
  have h16 := hw.1
  unfold fX10_part
  repeat rw [xlet_eq]
  rw [mask3 (by omega), lb48, cw_mod hw, sh3 (by omega), ushr64 (by have := p8k_48 hw; omega) (by omega), andm, p8, p8, p8k_drop hw.2, p8k_take (hw.drop p).2, toL (by omega) (by omega), sh48, cw_mk ((hw.drop p).take n) (by rw [List.length_take, List.length_drop]; omega)]
theorem c_at {w u : List Nat} (hw : Ww w) (hu : Ww u) {p : Nat} (hp : p ≤ 16) : (lg_cmp ((((i64 (cw w : Int) &&& 281474976710655).toUInt64 >>> ((3 * i32 (p : Int)).toInt64.toUInt64 &&& Int64.toUInt64 63)).toInt64) &&& (((1 : Int64) <<< ((3 * i32 (u.length : Int)).toInt64 &&& 63)) - 1)) (i64 (cw u : Int) &&& 281474976710655) = 0) = ((w.drop p).take u.length = u) := by
  have h1 := p8k_48 hu
  have h2 := p8k_48 ((hw.drop p).take u.length)
  rw [mask3 hu.1, lb48, lb48, cw_mod hw, cw_mod hu, sh3 (by omega), ushr64 (by have := p8k_48 hw; omega) (by omega), andm, p8, p8, p8k_drop hw.2, p8k_take (hw.drop p).2, cmp0, eq64 (by omega) (by omega) (by omega) (by omega)]
  exact propext ⟨fun h => p8k_inj ((hw.drop p).take u.length).2 hu.2 (by omega), fun h => by rw [h]⟩
theorem c_fits {w u v : List Nat} (hw : Ww w) (hu : Ww u) (hv : Ww v) {p : Nat} (hp : p ≤ 16) : fX10_fits (i64 (cw w : Int)) (i32 (p : Int)) (i64 (cw u : Int)) (i64 (cw v : Int)) = some (if fitsAt w p u v then 1 else 0) := by
  have h1 := hw.1
  have h2 := hu.1
  have h3 := hv.1
  unfold fX10_fits
  repeat rw [xlet_eq]
  rw [c_l hu, c_l hv, c_l hw, show (16 : Int32) = i32 16 from rfl, s32, a32]
  simp (disch := omega) only [c_at hw hu hp, lt32]
  by_cases c1 : (w.drop p).take u.length = u
  · rw [if_pos c1]
    by_cases c2 : w.length + v.length ≤ 16 + u.length
    · rw [if_neg (by omega), if_pos ⟨c1, c2⟩]
    · rw [if_pos (by omega), if_neg (fun h => c2 h.2)]
  · rw [if_neg c1, if_neg (fun h => c1 h.1)]
theorem c_stands {w u : List Nat} (hw : Ww w) (hu : Ww u) {p : Nat} (hp : p ≤ 16) : fX10_standsAt (i64 (cw w : Int)) (i32 (p : Int)) (i64 (cw u : Int)) = some (if (w.drop p).take u.length = u then 1 else 0) := by
  unfold fX10_standsAt
  repeat rw [xlet_eq]
  rw [c_l hu]
  simp only [c_at hw hu hp]
  split <;> rfl
theorem fit_le {w u v : List Nat} {p : Nat} (h : fitsAt w p u v) (hp : p ≤ w.length) : p + u.length ≤ w.length := by
  have := congrArg List.length h.1
  rw [List.length_take, List.length_drop] at this
  omega
theorem repl_len {w u v : List Nat} {p : Nat} (h : fitsAt w p u v) (hp : p ≤ w.length) : (repl w p u v).length = w.length + v.length - u.length := by
  have := fit_le h hp
  unfold repl
  simp only [List.length_append, List.length_take, List.length_drop]
  omega
theorem repl_Ww {w u v : List Nat} (hw : Ww w) (hv : Ww v) {p : Nat} (h : fitsAt w p u v) (hp : p ≤ w.length) : Ww (repl w p u v) := by
  refine ⟨by rw [repl_len h hp]; have := h.2; omega, fun x hx => ?_⟩
  unfold repl at hx
  rcases List.mem_append.mp hx with hx | hx
  · rcases List.mem_append.mp hx with hx | hx
    · exact hw.2 x (List.mem_of_mem_take hx)
    · exact hv.2 x hx
  · exact hw.2 x (List.mem_of_mem_drop hx)
theorem c_repl {w u v : List Nat} (hw : Ww w) (hu : Ww u) (hv : Ww v) {p : Nat} (h : fitsAt w p u v) (hp : p ≤ w.length) : fX10_replaced (i64 (cw w : Int)) (i32 (p : Int)) (i64 (cw u : Int)) (i64 (cw v : Int)) = some (i64 (cw (repl w p u v) : Int)) := by
  have h1 := hw.1
  have h2 := hu.1
  have h3 := hv.1
  have hle := fit_le h hp
  have hR := repl_Ww hw hv h hp
  have hl := repl_len h hp
  have h4 := h.2
  have hb1 := p8k_48 hw
  have hb2 := p8k_48 hv
  unfold fX10_replaced
  repeat rw [xlet_eq]
  rw [c_l hu, c_l hv, c_l48 hw, lb48, lb48, cw_mod hw, cw_mod hv, a32, a32, show ((p : Int) + (u.length : Int)) = ((p + u.length : Nat) : Int) from rfl, show ((p : Int) + (v.length : Int)) = ((p + v.length : Nat) : Int) from rfl, mask3 (by omega), andm, sh3 (by omega), sh3 (by omega), sh3 (by omega), ushr64 (by omega) (by omega), shl64 (by omega), shl64 (by omega), toL (by omega) (by omega), toL (by omega) (by omega), s64, a64, sh48]
  have e1 : ((w.length : Int) - (u.length : Int) + (v.length : Int)) = (((repl w p u v).length : Nat) : Int) := by omega
  have t1 : (w.take p).length = p := by rw [List.length_take]; omega
  rw [e1, p8, p8, p8k_take hw.2, p8k_drop hw.2, ← p8, orm (by rw [p8]; have := p8k_lt (hw.take p).2; rw [t1] at this; exact this)]
  have e2 : p8k (w.take p) + p8k v * 2 ^ (3 * p) = p8k (w.take p ++ v) := by rw [p8k_append, t1, p8, Nat.mul_comm]
  have e3 : p8k (w.take p ++ v) + p8k (w.drop (p + u.length)) * 2 ^ (3 * (p + v.length)) = p8k (repl w p u v) := by
    unfold repl
    rw [p8k_append (w.take p ++ v), List.length_append, t1, p8, Nat.mul_comm]
  have b1 : p8k (w.take p ++ v) < 2 ^ (3 * (p + v.length)) := by
    have := p8k_lt (w := w.take p ++ v) (fun x hx => hR.2 x (List.mem_append.mpr (Or.inl hx)))
    rw [List.length_append, t1] at this
    rw [p8]; exact this
  rw [e2, orm b1, e3, cw_mk hR rfl]
/-! the reference's -/
theorem r6_gen (b : List Nat) (c : Nat) : b.foldl (fun a x => 6 * a + (x + 1)) c = c * 6 ^ b.length + r6 b := by
  unfold r6
  induction b generalizing c with
  | nil => simp
  | cons x b ih =>
    simp only [List.foldl_cons, List.length_cons]
    rw [ih, ih (6 * 0 + (x + 1)), Nat.pow_succ, Nat.add_mul, Nat.mul_comm (6 ^ b.length) 6, ← Nat.mul_assoc, Nat.mul_comm c 6]
    simp only [Nat.mul_zero, Nat.zero_add]
    omega
theorem r6_append (a b : List Nat) : r6 (a ++ b) = r6 a * 6 ^ b.length + r6 b := by
  rw [← r6_gen]
  unfold r6
  rw [List.foldl_append]
theorem r6_snoc (w : List Nat) (x : Nat) : r6 (w ++ [x]) = 6 * r6 w + (x + 1) := by
  unfold r6
  rw [List.foldl_append]; rfl
theorem r6_lt : ∀ {w : List Nat}, (∀ x ∈ w, x < 5) → r6 w < 6 ^ w.length := by
  intro w
  induction w with
  | nil => intro _; decide
  | cons x w ih =>
    intro h
    have h1 := h x (by simp)
    have h2 := ih (fun y hy => h y (by simp [hy]))
    rw [show x :: w = [x] ++ w from rfl, r6_append, List.length_append, Nat.pow_add]
    have : r6 [x] = x + 1 := by simp [r6]
    rw [this, show [x].length = 1 from rfl, Nat.pow_one]
    have : (x + 1) * 6 ^ w.length ≤ 5 * 6 ^ w.length := Nat.mul_le_mul_right _ (by omega)
    omega
theorem r6_pos {w : List Nat} (h : w ≠ []) : 0 < r6 w := by
  cases w with
  | nil => exact absurd rfl h
  | cons x w =>
    rw [show x :: w = [x] ++ w from rfl, r6_append, show r6 [x] = x + 1 from by simp [r6]]
    have : 0 < (x + 1) * 6 ^ w.length := Nat.mul_pos (by omega) (Nat.pow_pos (by decide))
    omega
theorem r6_split {w : List Nat} {p : Nat} : r6 w = r6 (w.take p) * 6 ^ (w.length - p) + r6 (w.drop p) := by
  have := r6_append (w.take p) (w.drop p)
  rw [List.take_append_drop, List.length_drop] at this
  exact this
theorem r6_drop_lt {w : List Nat} (h : ∀ x ∈ w, x < 5) (p : Nat) : r6 (w.drop p) < 6 ^ (w.length - p) := by
  have := r6_lt (w := w.drop p) (fun x hx => h x (List.mem_of_mem_drop hx))
  rw [List.length_drop] at this
  exact this
theorem r6_div {w : List Nat} (h : ∀ x ∈ w, x < 5) (p : Nat) : r6 w / 6 ^ (w.length - p) = r6 (w.take p) := by
  rw [r6_split (w := w) (p := p), Nat.add_comm, Nat.mul_comm, Nat.add_mul_div_left _ _ (Nat.pow_pos (by decide)), Nat.div_eq_of_lt (r6_drop_lt h p), Nat.zero_add]
theorem r6_mod {w : List Nat} (h : ∀ x ∈ w, x < 5) (p : Nat) : r6 w % 6 ^ (w.length - p) = r6 (w.drop p) := by
  have e := r6_split (w := w) (p := p)
  have h2 := r6_drop_lt h p
  generalize 6 ^ (w.length - p) = q at *
  rw [e, Nat.add_comm, Nat.mul_comm, Nat.add_mul_mod_self_left, Nat.mod_eq_of_lt h2]
theorem r6_inj : ∀ (n : Nat) {u v : List Nat}, u.length ≤ n → (∀ x ∈ u, x < 5) → (∀ x ∈ v, x < 5) → r6 u = r6 v → u = v := by
  intro n
  induction n with
  | zero =>
    intro u v hn hu hv h
    have : u = [] := List.length_eq_zero_iff.mp (by omega)
    subst this
    by_cases hv0 : v = []
    · exact hv0.symm
    · have := r6_pos hv0; rw [← h] at this; exact absurd this (by decide)
  | succ n ih =>
    intro u v hn hu hv h
    rcases List.eq_nil_or_concat u with rfl | ⟨u', x, hu'⟩
    · by_cases hv0 : v = []
      · exact hv0.symm
      · have := r6_pos hv0; rw [← h] at this; exact absurd this (by decide)
    · rcases List.eq_nil_or_concat v with rfl | ⟨v', y, hv'⟩
      · have := r6_pos (w := u) (by rw [hu']; simp); rw [h] at this; exact absurd this (by decide)
      · rw [List.concat_eq_append] at hu' hv'
        subst hu'; subst hv'
        rw [r6_snoc, r6_snoc] at h
        have h1 := hu x (by simp)
        have h2 := hv y (by simp)
        have e1 : x = y := by omega
        have e2 : r6 u' = r6 v' := by omega
        rw [e1, ih (by simp at hn; omega) (fun z hz => hu z (by simp [hz])) (fun z hz => hv z (by simp [hz])) e2]
theorem s16 : 6 ^ 16 = 2821109907456 := by decide
theorem r6_16 {w : List Nat} (hw : Ww w) : r6 w < 2821109907456 := by
  rw [← s16]
  exact Nat.lt_of_lt_of_le (r6_lt hw.2) (Nat.pow_le_pow_right (by decide) hw.1)
theorem r6e {u v : List Nat} (hu : Ww u) (hv : Ww v) : (i64 (r6 u : Int) = i64 (r6 v : Int)) = (u = v) := by
  have h1 := r6_16 hu
  have h2 := r6_16 hv
  rw [eq64 (by omega) (by omega) (by omega) (by omega)]
  exact propext ⟨fun h => r6_inj _ (Nat.le_refl _) hu.2 hv.2 (by omega), fun h => by rw [h]⟩
theorem r6_nil : i64 ((r6 [] : Nat) : Int) = 0 := by decide
/-- how a loop over a number's figures goes: from the last letter on -/
theorem r6_step {w : List Nat} (hw : Ww w) {k : Nat} (hk : k < w.length) : 0 < r6 w / 6 ^ k ∧ r6 w / 6 ^ k / 6 = r6 w / 6 ^ (k + 1) ∧ r6 w / 6 ^ k % 6 = w[w.length - 1 - k] + 1 := by
  have e1 : r6 w / 6 ^ k = r6 (w.take (w.length - k)) := by
    rw [← r6_div hw.2 (w.length - k), show w.length - (w.length - k) = k by omega]
  have e2 : w.take (w.length - k) = w.take (w.length - 1 - k) ++ [w[w.length - 1 - k]] := by
    rw [show w.length - k = (w.length - 1 - k) + 1 by omega, List.take_succ_eq_append_getElem (by omega)]
  refine ⟨?_, by rw [Nat.pow_succ, Nat.div_div_eq_div_mul], ?_⟩
  · rw [e1, e2]; exact r6_pos (List.append_ne_nil_of_right_ne_nil _ (List.cons_ne_nil _ _))
  · have := hw.2 _ (List.getElem_mem (show w.length - 1 - k < w.length by omega))
    rw [e1, e2, r6_snoc]; omega
theorem r6_end {w : List Nat} (hw : Ww w) : r6 w / 6 ^ w.length = 0 := Nat.div_eq_of_lt (r6_lt hw.2)
theorem r_len {w : List Nat} (hw : Ww w) : fX12_length (i64 (r6 w : Int)) = some (i32 (w.length : Int)) := by
  have hb := r6_16 hw
  unfold fX12_length
  rw [iter_to w.length (fun k => (i32 (k : Int), i64 ((r6 w / 6 ^ k : Nat) : Int))) (by simp; rfl) ?_ ?_]; rfl
  · intro k hk
    obtain ⟨h1, h2, -⟩ := r6_step hw hk
    have h3 := Nat.div_le_self (r6 w) (6 ^ k)
    unfold fLX12_length_4
    repeat rw [xlet_eq]
    rw [if_neg (by rw [cmple, t64 (by omega) (by omega)]; simp only [Int64.toInt_zero]; omega)]
    simp only []
    rw [show (1 : Int32) = i32 1 from rfl, a32, show (6 : Int64) = i64 ((6 : Nat) : Int) from rfl, div64 (by omega) (by decide), h2]; rfl
  · unfold fLX12_length_4
    rw [r6_end hw, if_pos (by show lg_cmp (i64 ((0 : Nat) : Int)) 0 ≤ 0; decide)]
theorem r_pow {n : Nat} (hn : n ≤ 20) : fX12_power (i32 (n : Int)) = some (i64 ((6 ^ n : Nat) : Int)) := by
  unfold fX12_power
  rw [iter_to n (fun k => (i64 ((6 ^ k : Nat) : Int), i32 (k : Int))) (show ((1 : Int64), (0 : Int32)) = _ from rfl) ?_ ?_]; rfl
  · intro k hk
    unfold fLX12_power_4
    repeat rw [xlet_eq]
    rw [if_neg (by rw [le32 (by omega) (by omega) (by omega) (by omega)]; omega)]
    simp only []
    rw [show (1 : Int32) = i32 1 from rfl, a32, show (6 : Int64) = i64 ((6 : Nat) : Int) from rfl, m64, Nat.pow_succ]; rfl
  · unfold fLX12_power_4
    rw [if_pos (by rw [le32 (by omega) (by omega) (by omega) (by omega)]; omega)]
theorem s20 {n : Nat} (hn : n ≤ 20) : 0 < 6 ^ n ∧ 6 ^ n < 9223372036854775808 := ⟨Nat.pow_pos (by decide), Nat.lt_of_le_of_lt (Nat.pow_le_pow_right (by decide) hn) (by decide)⟩
theorem r_part {w : List Nat} (hw : Ww w) {p n : Nat} (hp : p + n ≤ w.length) : fX12_part (i64 (r6 w : Int)) (i32 (p : Int)) (i32 (n : Int)) = some (i64 (r6 ((w.drop p).take n) : Int)) := by
  have h16 := hw.1
  have hb := r6_16 hw
  obtain ⟨q1, q2⟩ := s20 (n := w.length - (p + n)) (by omega)
  obtain ⟨q3, q4⟩ := s20 (n := n) (by omega)
  have hb2 := Nat.div_le_self (r6 w) (6 ^ (w.length - (p + n)))
  have e9 : ((w.length : Int) - (p : Int) - (n : Int)) = ((w.length - (p + n) : Nat) : Int) := by omega
  unfold fX12_part
  rw [r_len hw, some_bind, s32, s32, e9, r_pow (by omega), some_bind, if_neg (by rw [show (0 : Int64) = i64 0 from rfl, eq64 (by omega) (by omega) (by omega) (by omega)]; omega), r_pow (by omega), some_bind, if_neg (by rw [show (0 : Int64) = i64 0 from rfl, eq64 (by omega) (by omega) (by omega) (by omega)]; omega)]
  rw [div64 (by omega) q2, rem64 (by omega) q4, r6_div hw.2]
  have := r6_mod (hw.take (p + n)).2 p
  rw [List.length_take, Nat.min_eq_left hp, show p + n - p = n by omega] at this
  rw [this, List.drop_take, show p + n - p = n by omega]
theorem r_let {w : List Nat} (hw : Ww w) {k : Nat} (hk : k < w.length) : fX12_letterAt (i64 (r6 w : Int)) (i32 (k : Int)) = some (i32 (ltr w k)) := by
  unfold fX12_letterAt
  rw [show (1 : Int32) = i32 ((1 : Nat) : Int) from rfl, r_part hw (by omega), some_bind, toI, s32]
  unfold ltr
  rw [List.getElem?_eq_getElem hk, List.drop_eq_getElem_cons hk, List.take_succ_cons, List.take_zero]
  congr 2
  show (((6 * 0 + (w[k] + 1) : Nat) : Int)) - 1 = (w[k] : Int)
  omega
theorem r_join {a b : List Nat} (ha : Ww a) (hb : Ww b) : fX12_joined (i64 (r6 a : Int)) (i64 (r6 b : Int)) = some (i64 (r6 (a ++ b) : Int)) := by
  have := hb.1
  unfold fX12_joined
  rw [r_len hb, some_bind, r_pow (by omega), some_bind, m64, a64, r6_append]; rfl
/-- what the reference's made answers -/
def mk6 (w : List Nat) (p : Nat) (u v : List Nat) : Int := if fitsAt w p u v then (r6 (repl w p u v) : Int) else -1
theorem r_made {w u v : List Nat} (hw : Ww w) (hu : Ww u) (hv : Ww v) {p : Nat} (hp : p ≤ w.length) : fX12_made (i64 (r6 w : Int)) (i32 (p : Int)) (i64 (r6 u : Int)) (i64 (r6 v : Int)) = some (i64 (mk6 w p u v)) := by
  have h1 := hw.1
  have h2 := hu.1
  have h3 := hv.1
  unfold fX12_made mk6
  rw [r_len hw, some_bind, r_len hu, some_bind, a32]
  by_cases c0 : p + u.length ≤ w.length
  · rw [if_neg (by rw [lt32 (by omega) (by omega) (by omega) (by omega)]; omega), r_part hw c0, some_bind]
    have hP : Ww ((w.drop p).take u.length) := (hw.drop p).take _
    by_cases c1 : (w.drop p).take u.length = u
    · rw [if_pos (by rw [cmp0, r6e hP hu]; exact c1), r_len hv, some_bind, s32, a32, show (16 : Int32) = i32 16 from rfl]
      by_cases c2 : w.length + v.length ≤ 16 + u.length
      · have hR := repl_Ww hw hv ⟨c1, c2⟩ hp
        rw [if_pos (by rw [le32 (by omega) (by omega) (by omega) (by omega)]; omega), if_pos ⟨c1, c2⟩]
        unfold fX12_put
        have e9 : ((w.length : Int) - (p : Int) - (u.length : Int)) = ((w.length - (p + u.length) : Nat) : Int) := by omega
        rw [r_len hw, some_bind, show (0 : Int32) = i32 ((0 : Nat) : Int) from rfl, r_part hw (by omega), some_bind, List.drop_zero, r_join (hw.take p) hv, some_bind, s32, a32, s32, e9, show ((p : Int) + (u.length : Int)) = ((p + u.length : Nat) : Int) from rfl, r_part hw (by omega), some_bind]
        rw [List.take_of_length_le (l := w.drop (p + u.length)) (by rw [List.length_drop]; omega)]
        have hT : Ww (w.take p ++ v) := ⟨by rw [List.length_append, List.length_take]; omega, fun x hx => hR.2 x (List.mem_append.mpr (Or.inl hx))⟩
        rw [r_join hT (hw.drop _), some_bind]; rfl
      · rw [if_neg (by rw [le32 (by omega) (by omega) (by omega) (by omega)]; omega), if_neg (fun h => c2 h.2)]; rfl
    · rw [if_neg (by rw [cmp0, r6e hP hu]; exact c1), if_neg (fun h => c1 h.1)]; rfl
  · rw [if_pos (by rw [lt32 (by omega) (by omega) (by omega) (by omega)]; omega), if_neg (fun h => c0 (fit_le h hp))]; rfl
