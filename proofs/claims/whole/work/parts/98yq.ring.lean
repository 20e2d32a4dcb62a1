/-! THE START: the ring of desks, the whole object -/
section RI
variable {h : Nat} {e : Nat → Option xE}
theorem Te_sR {k jn v : Nat} {f : Nat → Option Nat} {iv : Int32} (hk : k < 340) (he : e k = some (.inl (3, 20, .inr (.inr (.inr (.inr f)))))) (hj : jn < 20) (hi : iv = i32 (jn : Int)) : sR (Te h e) (h + k) iv v = some (Te h (eu e k (.inl (3, 20, .inr (.inr (.inr (.inr (va_up f jn (some v))))))))) := by
  subst hi
  have ej : (i32 (jn : Int)).toNatClampNeg = jn := by
    show (i32 (jn : Int)).toInt.toNat = jn
    rw [t32 (by omega) (by omega)]; omega
  unfold sR arR
  rw [Te_at hk, he]
  simp only [if_true, sb]
  rw [ej, if_neg, Te_xu hk]
  intro h9
  rcases h9 with h9 | h9
  · rw [q0, lt32 (by omega) (by omega) (by omega) (by omega)] at h9; omega
  · omega
def rgF (h k : Nat) : Nat → Option Nat := fun j => if j < k then some (h + (26 + 11 * j)) else none
theorem rg_up {k : Nat} : va_up (rgF h k) k (some (h + (26 + 11 * k))) = rgF h (k + 1) := by
  funext j
  unfold va_up rgF
  by_cases c : j = k
  · subst c
    rw [if_pos rfl, if_pos (by omega)]
  · rw [if_neg c]
    by_cases c2 : j < k
    · rw [if_pos c2, if_pos (by omega)]
    · rw [if_neg c2, if_neg (by omega)]
def RGk (h k : Nat) (e : Nat → Option xE) : Prop := e 24 = some (.inr (0, [.ref (h + 25), .int 0, .int 0])) ∧ e 25 = some (.inl (3, 20, .inr (.inr (.inr (.inr (rgF h k)))))) ∧ ∀ t, t < k → R2 h (26 + 11 * t) e
theorem RGk.fr {e' : Nat → Option xE} (g : RGk h 20 e) (hf : ∀ i, 24 ≤ i → i ≤ 245 → e' i = e i) : RGk h 20 e' :=
  ⟨by rw [hf 24 (by omega) (by omega)]; exact g.1, by rw [hf 25 (by omega) (by omega)]; exact g.2.1, fun t ht => (g.2.2 t ht).fr (fun i a b => hf i (by omega) (by omega))⟩
theorem ring {k a b : Nat} {iv : Int32} (g : RGk h k e) (hk : k < 20) (ha : a = h + (26 + 11 * k)) (hb : b = h + (26 + 11 * k + 1)) (hi : iv = i32 (k : Int)) : ∃ e', (∀ F : St → Option St, ((gR (Te h e) (h + 24) 0 0).bind fun v => xlet (xu (Te h e) a (.inr (2, [.null, .null, .null, .null, .null]))) fun σ => (fX2_init σ b a).bind fun σ' => (isO σ' a 2).bind fun _ => (sR σ' v iv a).bind F) = F (Te h e')) ∧ RGk h (k + 1) e' ∧ ∀ i, i < 24 → e' i = e i := by
  subst ha hb
  obtain ⟨g1, g2, g3⟩ := g
  obtain ⟨e1, c1, D1, f1⟩ := i2 (h := h) (e := eu e (26 + 11 * k) (.inr (2, n2))) (d := 26 + 11 * k) (by omega) eu_at
  have z24 : e1 24 = some (.inr (0, [.ref (h + 25), .int 0, .int 0])) := by rw [f1 24 (by omega), eu_ne (by omega)]; exact g1
  have z25 : e1 25 = some (.inl (3, 20, .inr (.inr (.inr (.inr (rgF h k)))))) := by rw [f1 25 (by omega), eu_ne (by omega)]; exact g2
  refine ⟨eu e1 25 (.inl (3, 20, .inr (.inr (.inr (.inr (rgF h (k + 1))))))), fun F => ?_, ⟨?_, eu_at, fun t ht => ?_⟩, fun i hi' => ?_⟩
  · rw [Te_gR (by decide) g1 rfl, sb, xlet_eq, Te_xu (by omega), show (fX2_init (Te h (eu e (26 + 11 * k) (.inr (2, [.null, .null, .null, .null, .null])))) (h + (26 + 11 * k + 1)) (h + (26 + 11 * k))) = _ from c1, sb, Te_o (by omega) D1.1, sb, Te_sR (by decide) z25 hk hi, sb, rg_up]
  · rw [eu_ne (by decide)]; exact z24
  · by_cases c : t = k
    · subst c; exact D1.fr (fun i a b => eu_ne (by omega))
    · exact (g3 t (by omega)).fr (fun i a b => by rw [eu_ne (by omega), f1 i (by omega), eu_ne (by omega)])
  · rw [eu_ne (by omega), f1 i (by omega), eu_ne (by omega)]
set_option maxHeartbeats 8000000 in
theorem s0_24 (he : e 24 = some (.inr (0, [.null, .int 0, .int 0]))) : ∃ e', fX0_init (Te h e) (h + 25) (h + 24) = some (Te h e') ∧ RGk h 20 e' ∧ ∀ i, i < 24 → e' i = e i := by
  have o0 : OBJ 24 0 [.null, .int 0, .int 0] [] e e := ⟨he, fun t ht => absurd ht (Nat.not_lt_zero t), fun _ _ => rfl⟩
  unfold fX0_init
  simp only [Nat.add_assoc, Nat.reduceAdd]
  obtain ⟨e1, c1, o1, _⟩ := o0.al (h := h) (j := 0) (v := .ref (h + 25)) (x := .inl (3, 20, .inr (.inr (.inr (.inr (fun _ => none)))))) (l' := [.ref (h + 25), .int 0, .int 0]) (A' := [.inl (3, 20, .inr (.inr (.inr (.inr (fun _ => none)))))]) (q := h + 24) (a := h + 25) (Nat.le_of_ble_eq_true rfl) (Nat.le_of_ble_eq_true rfl) rfl rfl rfl rfl
  rw [c1]
  obtain ⟨e2, c2, o2, n2⟩ := o1.wr (h := h) (j := 1) (v := .int 0) (l' := [.ref (h + 25), .int 0, .int 0]) (q := h + 24) (by decide) (Nat.le_of_ble_eq_true rfl) rfl rfl
  rw [c2]
  obtain ⟨e3, c3, o3, n3⟩ := o2.wr (h := h) (j := 2) (v := .int 0) (l' := [.ref (h + 25), .int 0, .int 0]) (q := h + 24) (by decide) (Nat.le_of_ble_eq_true rfl) rfl rfl
  rw [c3]
  have r0 : RGk h 0 e3 := ⟨o3.1, o3.2.1 0 (Nat.le_of_ble_eq_true rfl), fun t ht => absurd ht (by omega)⟩
  obtain ⟨b0, d0, r1, f0⟩ := ring (h := h) (a := h + 26) (b := h + 27) (iv := 0) r0 (by decide) rfl rfl (by decide)
  rw [d0]
  obtain ⟨b1, d1, r2, f1⟩ := ring (h := h) (a := h + 37) (b := h + 38) (iv := 1) r1 (by decide) rfl rfl (by decide)
  rw [d1]
  obtain ⟨b2, d2, r3, f2⟩ := ring (h := h) (a := h + 48) (b := h + 49) (iv := 2) r2 (by decide) rfl rfl (by decide)
  rw [d2]
  obtain ⟨b3, d3, r4, f3⟩ := ring (h := h) (a := h + 59) (b := h + 60) (iv := 3) r3 (by decide) rfl rfl (by decide)
  rw [d3]
  obtain ⟨b4, d4, r5, f4⟩ := ring (h := h) (a := h + 70) (b := h + 71) (iv := 4) r4 (by decide) rfl rfl (by decide)
  rw [d4]
  obtain ⟨b5, d5, r6, f5⟩ := ring (h := h) (a := h + 81) (b := h + 82) (iv := 5) r5 (by decide) rfl rfl (by decide)
  rw [d5]
  obtain ⟨b6, d6, r7, f6⟩ := ring (h := h) (a := h + 92) (b := h + 93) (iv := 6) r6 (by decide) rfl rfl (by decide)
  rw [d6]
  obtain ⟨b7, d7, r8, f7⟩ := ring (h := h) (a := h + 103) (b := h + 104) (iv := 7) r7 (by decide) rfl rfl (by decide)
  rw [d7]
  obtain ⟨b8, d8, r9, f8⟩ := ring (h := h) (a := h + 114) (b := h + 115) (iv := 8) r8 (by decide) rfl rfl (by decide)
  rw [d8]
  obtain ⟨b9, d9, r10, f9⟩ := ring (h := h) (a := h + 125) (b := h + 126) (iv := 9) r9 (by decide) rfl rfl (by decide)
  rw [d9]
  obtain ⟨b10, d10, r11, f10⟩ := ring (h := h) (a := h + 136) (b := h + 137) (iv := 10) r10 (by decide) rfl rfl (by decide)
  rw [d10]
  obtain ⟨b11, d11, r12, f11⟩ := ring (h := h) (a := h + 147) (b := h + 148) (iv := 11) r11 (by decide) rfl rfl (by decide)
  rw [d11]
  obtain ⟨b12, d12, r13, f12⟩ := ring (h := h) (a := h + 158) (b := h + 159) (iv := 12) r12 (by decide) rfl rfl (by decide)
  rw [d12]
  obtain ⟨b13, d13, r14, f13⟩ := ring (h := h) (a := h + 169) (b := h + 170) (iv := 13) r13 (by decide) rfl rfl (by decide)
  rw [d13]
  obtain ⟨b14, d14, r15, f14⟩ := ring (h := h) (a := h + 180) (b := h + 181) (iv := 14) r14 (by decide) rfl rfl (by decide)
  rw [d14]
  obtain ⟨b15, d15, r16, f15⟩ := ring (h := h) (a := h + 191) (b := h + 192) (iv := 15) r15 (by decide) rfl rfl (by decide)
  rw [d15]
  obtain ⟨b16, d16, r17, f16⟩ := ring (h := h) (a := h + 202) (b := h + 203) (iv := 16) r16 (by decide) rfl rfl (by decide)
  rw [d16]
  obtain ⟨b17, d17, r18, f17⟩ := ring (h := h) (a := h + 213) (b := h + 214) (iv := 17) r17 (by decide) rfl rfl (by decide)
  rw [d17]
  obtain ⟨b18, d18, r19, f18⟩ := ring (h := h) (a := h + 224) (b := h + 225) (iv := 18) r18 (by decide) rfl rfl (by decide)
  rw [d18]
  obtain ⟨b19, d19, r20, f19⟩ := ring (h := h) (a := h + 235) (b := h + 236) (iv := 19) r19 (by decide) rfl rfl (by decide)
  rw [d19]
  exact ⟨_, rfl, r20, fun i hi => (f19 i hi).trans ((f18 i hi).trans ((f17 i hi).trans ((f16 i hi).trans ((f15 i hi).trans ((f14 i hi).trans ((f13 i hi).trans ((f12 i hi).trans ((f11 i hi).trans ((f10 i hi).trans ((f9 i hi).trans ((f8 i hi).trans ((f7 i hi).trans ((f6 i hi).trans ((f5 i hi).trans ((f4 i hi).trans ((f3 i hi).trans ((f2 i hi).trans ((f1 i hi).trans ((f0 i hi).trans (o3.2.2 i hi))))))))))))))))))))⟩
theorem stp {lo j : Nat} {x : xE} {v : Value} {L L' : List Value} {eb : Nat → Option xE} (hlo : 0 < lo) (z : e 0 = some (.inr (10, L))) (fr : ∀ i, i < lo → eb i = eu e lo x i) (hj : j < L.length) (hl : L.set j v = L') : ∃ e', (∀ F : St → Option St, (wrF (Te h eb) (h + 0) 10 j v).bind F = F (Te h e')) ∧ e' 0 = some (.inr (10, L')) ∧ (∀ i, 0 < i → i < lo → e' i = e i) ∧ (∀ i, 0 < i → e' i = eb i) := by
  subst hl
  have zb : eb 0 = some (.inr (10, L)) := by rw [fr 0 hlo, eu_ne (by omega)]; exact z
  refine ⟨eu eb 0 (.inr (10, L.set j v)), fun F => ?_, eu_at, fun i a b => ?_, fun i a => eu_ne (by omega)⟩
  · rw [Te_wr (by decide) zb hj, sb]
  · rw [eu_ne (by omega), fr i b, eu_ne (by omega)]
def Q11 (h : Nat) (e : Nat → Option xE) : Prop := e 0 = some (.inr (10, [.ref (h + 1), .int 0, .int (-1), .ref (h + 2), .ref (h + 13), .int 0, .ref (h + 24), .ref (h + 246), .ref (h + 253), .ref (h + 256), .ref (h + 260), .ref (h + 264), .ref (h + 268), .ref (h + 272), .ref (h + 277), .ref (h + 279), .ref (h + 281), .ref (h + 294), .ref (h + 307), .int 0])) ∧ e 1 = some (zI 300) ∧ R2 h 2 e ∧ R2 h 13 e ∧ RGk h 20 e ∧ OB 246 7 [.ref (h + 247), .ref (h + 1), .int 0, .int 0, .int 0, .int 0] [] e ∧ R8 h 247 e ∧ OB 253 9 [.ref (h + 3), .ref (h + 254), .ref (h + 255), .int 0, .int 0] [.inl (1, 61, .inr (.inl (fun _ => 0))), .inl (0, 60, .inl (fun _ => 0))] e ∧ OB 256 5 [.ref (h + 3), .ref (h + 253), .ref (h + 257), .ref (h + 258), .ref (h + 259), .int 0, .int 0] [.inl (1, 2304, .inr (.inl (fun _ => 0))), .inl (0, 2304, .inl (fun _ => 0)), .inl (2, 2304, .inl (fun _ => 0))] e ∧ OB 260 6 [.ref (h + 3), .int 0, .ref (h + 261), .ref (h + 262), .int 0, .int 0, .int (-1), .int (-1), .ref (h + 263), .int 0] [.inl (1, 200, .inr (.inl (fun _ => 0))), .inl (0, 200, .inl (fun _ => 0)), .inl (0, 512, .inl (fun _ => 0))] e ∧ OB 264 6 [.ref (h + 3), .int 0, .ref (h + 265), .ref (h + 266), .int 0, .int 0, .int (-1), .int (-1), .ref (h + 267), .int 0] [.inl (1, 200, .inr (.inl (fun _ => 0))), .inl (0, 200, .inl (fun _ => 0)), .inl (0, 512, .inl (fun _ => 0))] e ∧ OB 268 6 [.ref (h + 3), .int 1, .ref (h + 269), .ref (h + 270), .int 0, .int 0, .int (-1), .int (-1), .ref (h + 271), .int 0] [.inl (1, 200, .inr (.inl (fun _ => 0))), .inl (0, 200, .inl (fun _ => 0)), .inl (0, 512, .inl (fun _ => 0))] e ∧ OB 272 1 [.ref (h + 3), .ref (h + 273), .int 0, .ref (h + 274), .ref (h + 275), .ref (h + 276)] [.inl (1, 85, .inr (.inl (fun _ => 0))), .inl (0, 425, .inl (fun _ => 0)), .inl (0, 85, .inl (fun _ => 0)), .inl (0, 85, .inl (fun _ => 0))] e ∧ OB 277 4 [.ref (h + 278), .int 0, .long 0, .long 0] [.inl (0, 5, .inl (fun _ => 0))] e ∧ OB 279 4 [.ref (h + 280), .int 0, .long 0, .long 0] [.inl (0, 5, .inl (fun _ => 0))] e ∧ OB 281 3 [.ref (h + 2), .int 0, .int 0, .ref (h + 282), .int 0, .int 0, .ref (h + 283), .ref (h + 284), .ref (h + 285), .ref (h + 286), .ref (h + 287), .ref (h + 288), .ref (h + 289), .ref (h + 290), .ref (h + 291), .ref (h + 292), .ref (h + 293)] [.inl (0, 656, .inl (fun _ => 0)), .inl (0, 656, .inl (fun _ => 0)), .inl (0, 656, .inl (fun _ => 0)), .inl (0, 640, .inl (fun _ => 0)), .inl (0, 40, .inl (fun _ => 0)), .inl (0, 40, .inl (fun _ => 0)), .inl (0, 40, .inl (fun _ => 0)), .inl (0, 40, .inl (fun _ => 0)), .inl (0, 40, .inl (fun _ => 0)), .inl (0, 40, .inl (fun _ => 0)), .inl (0, 40, .inl (fun _ => 0)), .inl (0, 40, .inl (fun _ => 0))] e ∧ OB 294 3 [.ref (h + 2), .int 0, .int 0, .ref (h + 295), .int 0, .int 0, .ref (h + 296), .ref (h + 297), .ref (h + 298), .ref (h + 299), .ref (h + 300), .ref (h + 301), .ref (h + 302), .ref (h + 303), .ref (h + 304), .ref (h + 305), .ref (h + 306)] [.inl (0, 656, .inl (fun _ => 0)), .inl (0, 656, .inl (fun _ => 0)), .inl (0, 656, .inl (fun _ => 0)), .inl (0, 640, .inl (fun _ => 0)), .inl (0, 40, .inl (fun _ => 0)), .inl (0, 40, .inl (fun _ => 0)), .inl (0, 40, .inl (fun _ => 0)), .inl (0, 40, .inl (fun _ => 0)), .inl (0, 40, .inl (fun _ => 0)), .inl (0, 40, .inl (fun _ => 0)), .inl (0, 40, .inl (fun _ => 0)), .inl (0, 40, .inl (fun _ => 0))] e ∧ e 307 = some (zI 430)
set_option maxHeartbeats 16000000 in
theorem s11 (he : e 0 = some (.inr (10, v11))) : ∃ e', fX11_init (Te h e) (h + 1) (h + 0) = some (Te h e') ∧ Q11 h e' := by
  have o0 : OBJ 0 10 [.null, .int 0, .int 0, .null, .null, .int 0, .null, .null, .null, .null, .null, .null, .null, .null, .null, .null, .null, .null, .null, .int 0] [] e e := ⟨he, fun t ht => absurd ht (Nat.not_lt_zero t), fun _ _ => rfl⟩
  unfold fX11_init
  simp only [Nat.add_assoc, Nat.reduceAdd]
  obtain ⟨e1, c1, o1, _⟩ := o0.al (h := h) (j := 0) (v := .ref (h + 1)) (x := .inl (0, 300, .inl (fun _ => 0))) (l' := [.ref (h + 1), .int 0, .int 0, .null, .null, .int 0, .null, .null, .null, .null, .null, .null, .null, .null, .null, .null, .null, .null, .null, .int 0]) (A' := [.inl (0, 300, .inl (fun _ => 0))]) (q := h + 0) (a := h + 1) (Nat.le_of_ble_eq_true rfl) (Nat.le_of_ble_eq_true rfl) rfl rfl rfl rfl
  rw [c1]
  obtain ⟨e2, c2, o2, n2⟩ := o1.wr (h := h) (j := 1) (v := .int 0) (l' := [.ref (h + 1), .int 0, .int 0, .null, .null, .int 0, .null, .null, .null, .null, .null, .null, .null, .null, .null, .null, .null, .null, .null, .int 0]) (q := h + 0) (by decide) (Nat.le_of_ble_eq_true rfl) rfl rfl
  rw [c2]
  obtain ⟨e3, c3, o3, n3⟩ := o2.wr (h := h) (j := 2) (v := .int (-1)) (l' := [.ref (h + 1), .int 0, .int (-1), .null, .null, .int 0, .null, .null, .null, .null, .null, .null, .null, .null, .null, .null, .null, .null, .null, .int 0]) (q := h + 0) (by decide) (Nat.le_of_ble_eq_true rfl) rfl rfl
  rw [c3]
  obtain ⟨b4, c4, D4, f4⟩ := i2 (h := h) (e := eu e3 2 (.inr (2, [.null, .null, .null, .null, .null]))) (d := 2) (by decide) eu_at
  obtain ⟨e4, w4, z4, g4, m4⟩ := stp (h := h) (e := e3) (lo := 2) (j := 3) (x := .inr (2, [.null, .null, .null, .null, .null])) (v := .ref (h + 2)) (L' := [.ref (h + 1), .int 0, .int (-1), .ref (h + 2), .null, .int 0, .null, .null, .null, .null, .null, .null, .null, .null, .null, .null, .null, .null, .null, .int 0]) (by decide) o3.1 (fun i hi => f4 i (by omega)) (Nat.le_of_ble_eq_true rfl) rfl
  rw [xlet_eq, Te_xu (by decide)]
  rw [show (fX2_init (Te h (eu e3 2 (.inr (2, [.null, .null, .null, .null, .null])))) (h + 3) (h + 2)) = _ from c4, sb, w4]
  have P4 : R2 h 2 e4 := D4.fr (fun i a b => m4 i (by omega))
  obtain ⟨b5, c5, D5, f5⟩ := i2 (h := h) (e := eu e4 13 (.inr (2, [.null, .null, .null, .null, .null]))) (d := 13) (by decide) eu_at
  obtain ⟨e5, w5, z5, g5, m5⟩ := stp (h := h) (e := e4) (lo := 13) (j := 4) (x := .inr (2, [.null, .null, .null, .null, .null])) (v := .ref (h + 13)) (L' := [.ref (h + 1), .int 0, .int (-1), .ref (h + 2), .ref (h + 13), .int 0, .null, .null, .null, .null, .null, .null, .null, .null, .null, .null, .null, .null, .null, .int 0]) (by decide) z4 (fun i hi => f5 i (by omega)) (Nat.le_of_ble_eq_true rfl) rfl
  rw [xlet_eq, Te_xu (by decide)]
  rw [show (fX2_init (Te h (eu e4 13 (.inr (2, [.null, .null, .null, .null, .null])))) (h + 14) (h + 13)) = _ from c5, sb, w5]
  have P5 : R2 h 13 e5 := D5.fr (fun i a b => m5 i (by omega))
  have y5 : e5 2 = some (.inr (2, f2 h 2)) := (g5 2 (by decide) (by decide)).trans P4.1
  obtain ⟨e6, w6, z6, g6, m6⟩ := stp (h := h) (e := e5) (eb := e5) (lo := 340) (j := 5) (x := .inr (0, [])) (v := .int 0) (L' := [.ref (h + 1), .int 0, .int (-1), .ref (h + 2), .ref (h + 13), .int 0, .null, .null, .null, .null, .null, .null, .null, .null, .null, .null, .null, .null, .null, .int 0]) (by decide) z5 (fun i hi => (eu_ne (by omega)).symm) (Nat.le_of_ble_eq_true rfl) rfl
  rw [w6]
  have y6 : e6 2 = some (.inr (2, f2 h 2)) := (g6 2 (by decide) (by decide)).trans y5
  obtain ⟨b7, c7, D7, f7⟩ := s0_24 (h := h) (e := eu e6 24 (.inr (0, [.null, .int 0, .int 0]))) eu_at
  obtain ⟨e7, w7, z7, g7, m7⟩ := stp (h := h) (e := e6) (lo := 24) (j := 6) (x := .inr (0, [.null, .int 0, .int 0])) (v := .ref (h + 24)) (L' := [.ref (h + 1), .int 0, .int (-1), .ref (h + 2), .ref (h + 13), .int 0, .ref (h + 24), .null, .null, .null, .null, .null, .null, .null, .null, .null, .null, .null, .null, .int 0]) (by decide) z6 (fun i hi => f7 i hi) (Nat.le_of_ble_eq_true rfl) rfl
  rw [xlet_eq, Te_xu (by decide)]
  rw [show (fX0_init (Te h (eu e6 24 (.inr (0, [.null, .int 0, .int 0])))) (h + 25) (h + 24)) = _ from c7, sb, w7]
  have P7 : RGk h 20 e7 := D7.fr (fun i a b => m7 i (by omega))
  have y7 : e7 2 = some (.inr (2, f2 h 2)) := (g7 2 (by decide) (by decide)).trans y6
  obtain ⟨b8, c8, o8, D8⟩ := s7_246 (h := h) (p := h + 1) (e := eu e7 246 (.inr (7, [.null, .null, .int 0, .int 0, .int 0, .int 0]))) eu_at
  obtain ⟨e8, w8, z8, g8, m8⟩ := stp (h := h) (e := e7) (lo := 246) (j := 7) (x := .inr (7, [.null, .null, .int 0, .int 0, .int 0, .int 0])) (v := .ref (h + 246)) (L' := [.ref (h + 1), .int 0, .int (-1), .ref (h + 2), .ref (h + 13), .int 0, .ref (h + 24), .ref (h + 246), .null, .null, .null, .null, .null, .null, .null, .null, .null, .null, .null, .int 0]) (by decide) z7 (o8.2.2) (Nat.le_of_ble_eq_true rfl) rfl
  rw [xlet_eq, Te_xu (by decide), Te_gR (by decide) ((eu_ne (by decide)).trans z7) (p := h + 1) rfl, sb]
  rw [show (fX7_init (Te h (eu e7 246 (.inr (7, [.null, .null, .int 0, .int 0, .int 0, .int 0])))) (h + 247) (h + 246) (h + 1)) = _ from c8, sb, w8]
  have P8 := o8.ob.fr (fun i a b => m8 i (by omega))
  have S8 : R8 h 247 e8 := D8.fr (fun i a b => m8 i (by omega))
  have y8 : e8 2 = some (.inr (2, f2 h 2)) := (g8 2 (by decide) (by decide)).trans y7
  obtain ⟨b9, c9, o9⟩ := s9_253 (h := h) (p := h + 3) (e := eu e8 253 (.inr (9, [.null, .null, .null, .int 0, .int 0]))) eu_at
  obtain ⟨e9, w9, z9, g9, m9⟩ := stp (h := h) (e := e8) (lo := 253) (j := 8) (x := .inr (9, [.null, .null, .null, .int 0, .int 0])) (v := .ref (h + 253)) (L' := [.ref (h + 1), .int 0, .int (-1), .ref (h + 2), .ref (h + 13), .int 0, .ref (h + 24), .ref (h + 246), .ref (h + 253), .null, .null, .null, .null, .null, .null, .null, .null, .null, .null, .int 0]) (by decide) z8 (o9.2.2) (Nat.le_of_ble_eq_true rfl) rfl
  rw [xlet_eq, Te_xu (by decide), Te_gR (by decide) ((eu_ne (by decide)).trans z8) (p := h + 2) rfl, sb, Te_gR (by decide) ((eu_ne (by decide)).trans y8) (p := h + 3) rfl, sb]
  rw [show (fX9_init (Te h (eu e8 253 (.inr (9, [.null, .null, .null, .int 0, .int 0])))) (h + 254) (h + 253) (h + 3)) = _ from c9, sb, w9]
  have P9 := o9.ob.fr (fun i a b => m9 i (by omega))
  have y9 : e9 2 = some (.inr (2, f2 h 2)) := (g9 2 (by decide) (by decide)).trans y8
  obtain ⟨b10, c10, o10⟩ := s5_256 (h := h) (p := h + 3) (r := h + 253) (e := eu e9 256 (.inr (5, [.null, .null, .null, .null, .null, .int 0, .int 0]))) eu_at
  obtain ⟨e10, w10, z10, g10, m10⟩ := stp (h := h) (e := e9) (lo := 256) (j := 9) (x := .inr (5, [.null, .null, .null, .null, .null, .int 0, .int 0])) (v := .ref (h + 256)) (L' := [.ref (h + 1), .int 0, .int (-1), .ref (h + 2), .ref (h + 13), .int 0, .ref (h + 24), .ref (h + 246), .ref (h + 253), .ref (h + 256), .null, .null, .null, .null, .null, .null, .null, .null, .null, .int 0]) (by decide) z9 (o10.2.2) (Nat.le_of_ble_eq_true rfl) rfl
  rw [xlet_eq, Te_xu (by decide), Te_gR (by decide) ((eu_ne (by decide)).trans z9) (p := h + 2) rfl, sb, Te_gR (by decide) ((eu_ne (by decide)).trans y9) (p := h + 3) rfl, sb, Te_gR (by decide) ((eu_ne (by decide)).trans z9) (p := h + 253) rfl, sb]
  rw [show (fX5_init (Te h (eu e9 256 (.inr (5, [.null, .null, .null, .null, .null, .int 0, .int 0])))) (h + 257) (h + 256) (h + 3) (h + 253)) = _ from c10, sb, w10]
  have P10 := o10.ob.fr (fun i a b => m10 i (by omega))
  have y10 : e10 2 = some (.inr (2, f2 h 2)) := (g10 2 (by decide) (by decide)).trans y9
  obtain ⟨b11, c11, o11⟩ := s6_260 (h := h) (p := h + 3) (z := 0) (e := eu e10 260 (.inr (6, [.null, .int 0, .null, .null, .int 0, .int 0, .int 0, .int 0, .null, .int 0]))) zok0 eu_at
  obtain ⟨e11, w11, z11, g11, m11⟩ := stp (h := h) (e := e10) (lo := 260) (j := 10) (x := .inr (6, [.null, .int 0, .null, .null, .int 0, .int 0, .int 0, .int 0, .null, .int 0])) (v := .ref (h + 260)) (L' := [.ref (h + 1), .int 0, .int (-1), .ref (h + 2), .ref (h + 13), .int 0, .ref (h + 24), .ref (h + 246), .ref (h + 253), .ref (h + 256), .ref (h + 260), .null, .null, .null, .null, .null, .null, .null, .null, .int 0]) (by decide) z10 (o11.2.2) (Nat.le_of_ble_eq_true rfl) rfl
  rw [xlet_eq, Te_xu (by decide), Te_gR (by decide) ((eu_ne (by decide)).trans z10) (p := h + 2) rfl, sb, Te_gR (by decide) ((eu_ne (by decide)).trans y10) (p := h + 3) rfl, sb]
  rw [show (fX6_init (Te h (eu e10 260 (.inr (6, [.null, .int 0, .null, .null, .int 0, .int 0, .int 0, .int 0, .null, .int 0])))) (h + 261) (h + 260) (h + 3) 0) = _ from c11, sb, w11]
  have P11 := o11.ob.fr (fun i a b => m11 i (by omega))
  have y11 : e11 2 = some (.inr (2, f2 h 2)) := (g11 2 (by decide) (by decide)).trans y10
  obtain ⟨b12, c12, o12⟩ := s6_264 (h := h) (p := h + 3) (z := 0) (e := eu e11 264 (.inr (6, [.null, .int 0, .null, .null, .int 0, .int 0, .int 0, .int 0, .null, .int 0]))) zok0 eu_at
  obtain ⟨e12, w12, z12, g12, m12⟩ := stp (h := h) (e := e11) (lo := 264) (j := 11) (x := .inr (6, [.null, .int 0, .null, .null, .int 0, .int 0, .int 0, .int 0, .null, .int 0])) (v := .ref (h + 264)) (L' := [.ref (h + 1), .int 0, .int (-1), .ref (h + 2), .ref (h + 13), .int 0, .ref (h + 24), .ref (h + 246), .ref (h + 253), .ref (h + 256), .ref (h + 260), .ref (h + 264), .null, .null, .null, .null, .null, .null, .null, .int 0]) (by decide) z11 (o12.2.2) (Nat.le_of_ble_eq_true rfl) rfl
  rw [xlet_eq, Te_xu (by decide), Te_gR (by decide) ((eu_ne (by decide)).trans z11) (p := h + 2) rfl, sb, Te_gR (by decide) ((eu_ne (by decide)).trans y11) (p := h + 3) rfl, sb]
  rw [show (fX6_init (Te h (eu e11 264 (.inr (6, [.null, .int 0, .null, .null, .int 0, .int 0, .int 0, .int 0, .null, .int 0])))) (h + 265) (h + 264) (h + 3) 0) = _ from c12, sb, w12]
  have P12 := o12.ob.fr (fun i a b => m12 i (by omega))
  have y12 : e12 2 = some (.inr (2, f2 h 2)) := (g12 2 (by decide) (by decide)).trans y11
  obtain ⟨b13, c13, o13⟩ := s6_268 (h := h) (p := h + 3) (z := 1) (e := eu e12 268 (.inr (6, [.null, .int 0, .null, .null, .int 0, .int 0, .int 0, .int 0, .null, .int 0]))) zok1 eu_at
  obtain ⟨e13, w13, z13, g13, m13⟩ := stp (h := h) (e := e12) (lo := 268) (j := 12) (x := .inr (6, [.null, .int 0, .null, .null, .int 0, .int 0, .int 0, .int 0, .null, .int 0])) (v := .ref (h + 268)) (L' := [.ref (h + 1), .int 0, .int (-1), .ref (h + 2), .ref (h + 13), .int 0, .ref (h + 24), .ref (h + 246), .ref (h + 253), .ref (h + 256), .ref (h + 260), .ref (h + 264), .ref (h + 268), .null, .null, .null, .null, .null, .null, .int 0]) (by decide) z12 (o13.2.2) (Nat.le_of_ble_eq_true rfl) rfl
  rw [xlet_eq, Te_xu (by decide), Te_gR (by decide) ((eu_ne (by decide)).trans z12) (p := h + 2) rfl, sb, Te_gR (by decide) ((eu_ne (by decide)).trans y12) (p := h + 3) rfl, sb]
  rw [show (fX6_init (Te h (eu e12 268 (.inr (6, [.null, .int 0, .null, .null, .int 0, .int 0, .int 0, .int 0, .null, .int 0])))) (h + 269) (h + 268) (h + 3) 1) = _ from c13, sb, w13]
  have P13 := o13.ob.fr (fun i a b => m13 i (by omega))
  have y13 : e13 2 = some (.inr (2, f2 h 2)) := (g13 2 (by decide) (by decide)).trans y12
  obtain ⟨b14, c14, o14⟩ := s1_272 (h := h) (p := h + 3) (e := eu e13 272 (.inr (1, [.null, .null, .int 0, .null, .null, .null]))) eu_at
  obtain ⟨e14, w14, z14, g14, m14⟩ := stp (h := h) (e := e13) (lo := 272) (j := 13) (x := .inr (1, [.null, .null, .int 0, .null, .null, .null])) (v := .ref (h + 272)) (L' := [.ref (h + 1), .int 0, .int (-1), .ref (h + 2), .ref (h + 13), .int 0, .ref (h + 24), .ref (h + 246), .ref (h + 253), .ref (h + 256), .ref (h + 260), .ref (h + 264), .ref (h + 268), .ref (h + 272), .null, .null, .null, .null, .null, .int 0]) (by decide) z13 (o14.2.2) (Nat.le_of_ble_eq_true rfl) rfl
  rw [xlet_eq, Te_xu (by decide), Te_gR (by decide) ((eu_ne (by decide)).trans z13) (p := h + 2) rfl, sb, Te_gR (by decide) ((eu_ne (by decide)).trans y13) (p := h + 3) rfl, sb]
  rw [show (fX1_init (Te h (eu e13 272 (.inr (1, [.null, .null, .int 0, .null, .null, .null])))) (h + 273) (h + 272) (h + 3)) = _ from c14, sb, w14]
  have P14 := o14.ob.fr (fun i a b => m14 i (by omega))
  have y14 : e14 2 = some (.inr (2, f2 h 2)) := (g14 2 (by decide) (by decide)).trans y13
  obtain ⟨b15, c15, o15⟩ := s4_277 (h := h) (e := eu e14 277 (.inr (4, [.null, .int 0, .long 0, .long 0]))) eu_at
  obtain ⟨e15, w15, z15, g15, m15⟩ := stp (h := h) (e := e14) (lo := 277) (j := 14) (x := .inr (4, [.null, .int 0, .long 0, .long 0])) (v := .ref (h + 277)) (L' := [.ref (h + 1), .int 0, .int (-1), .ref (h + 2), .ref (h + 13), .int 0, .ref (h + 24), .ref (h + 246), .ref (h + 253), .ref (h + 256), .ref (h + 260), .ref (h + 264), .ref (h + 268), .ref (h + 272), .ref (h + 277), .null, .null, .null, .null, .int 0]) (by decide) z14 (o15.2.2) (Nat.le_of_ble_eq_true rfl) rfl
  rw [xlet_eq, Te_xu (by decide)]
  rw [show (fX4_init (Te h (eu e14 277 (.inr (4, [.null, .int 0, .long 0, .long 0])))) (h + 278) (h + 277)) = _ from c15, sb, w15]
  have P15 := o15.ob.fr (fun i a b => m15 i (by omega))
  have y15 : e15 2 = some (.inr (2, f2 h 2)) := (g15 2 (by decide) (by decide)).trans y14
  obtain ⟨b16, c16, o16⟩ := s4_279 (h := h) (e := eu e15 279 (.inr (4, [.null, .int 0, .long 0, .long 0]))) eu_at
  obtain ⟨e16, w16, z16, g16, m16⟩ := stp (h := h) (e := e15) (lo := 279) (j := 15) (x := .inr (4, [.null, .int 0, .long 0, .long 0])) (v := .ref (h + 279)) (L' := [.ref (h + 1), .int 0, .int (-1), .ref (h + 2), .ref (h + 13), .int 0, .ref (h + 24), .ref (h + 246), .ref (h + 253), .ref (h + 256), .ref (h + 260), .ref (h + 264), .ref (h + 268), .ref (h + 272), .ref (h + 277), .ref (h + 279), .null, .null, .null, .int 0]) (by decide) z15 (o16.2.2) (Nat.le_of_ble_eq_true rfl) rfl
  rw [xlet_eq, Te_xu (by decide)]
  rw [show (fX4_init (Te h (eu e15 279 (.inr (4, [.null, .int 0, .long 0, .long 0])))) (h + 280) (h + 279)) = _ from c16, sb, w16]
  have P16 := o16.ob.fr (fun i a b => m16 i (by omega))
  have y16 : e16 2 = some (.inr (2, f2 h 2)) := (g16 2 (by decide) (by decide)).trans y15
  obtain ⟨b17, c17, o17⟩ := s3_281 (h := h) (p := h + 2) (e := eu e16 281 (.inr (3, [.null, .int 0, .int 0, .null, .int 0, .int 0, .null, .null, .null, .null, .null, .null, .null, .null, .null, .null, .null]))) eu_at
  obtain ⟨e17, w17, z17, g17, m17⟩ := stp (h := h) (e := e16) (lo := 281) (j := 16) (x := .inr (3, [.null, .int 0, .int 0, .null, .int 0, .int 0, .null, .null, .null, .null, .null, .null, .null, .null, .null, .null, .null])) (v := .ref (h + 281)) (L' := [.ref (h + 1), .int 0, .int (-1), .ref (h + 2), .ref (h + 13), .int 0, .ref (h + 24), .ref (h + 246), .ref (h + 253), .ref (h + 256), .ref (h + 260), .ref (h + 264), .ref (h + 268), .ref (h + 272), .ref (h + 277), .ref (h + 279), .ref (h + 281), .null, .null, .int 0]) (by decide) z16 (o17.2.2) (Nat.le_of_ble_eq_true rfl) rfl
  rw [xlet_eq, Te_xu (by decide), Te_gR (by decide) ((eu_ne (by decide)).trans z16) (p := h + 2) rfl, sb]
  rw [show (fX3_init (Te h (eu e16 281 (.inr (3, [.null, .int 0, .int 0, .null, .int 0, .int 0, .null, .null, .null, .null, .null, .null, .null, .null, .null, .null, .null])))) (h + 282) (h + 281) (h + 2)) = _ from c17, sb, w17]
  have P17 := o17.ob.fr (fun i a b => m17 i (by omega))
  have y17 : e17 2 = some (.inr (2, f2 h 2)) := (g17 2 (by decide) (by decide)).trans y16
  obtain ⟨b18, c18, o18⟩ := s3_294 (h := h) (p := h + 2) (e := eu e17 294 (.inr (3, [.null, .int 0, .int 0, .null, .int 0, .int 0, .null, .null, .null, .null, .null, .null, .null, .null, .null, .null, .null]))) eu_at
  obtain ⟨e18, w18, z18, g18, m18⟩ := stp (h := h) (e := e17) (lo := 294) (j := 17) (x := .inr (3, [.null, .int 0, .int 0, .null, .int 0, .int 0, .null, .null, .null, .null, .null, .null, .null, .null, .null, .null, .null])) (v := .ref (h + 294)) (L' := [.ref (h + 1), .int 0, .int (-1), .ref (h + 2), .ref (h + 13), .int 0, .ref (h + 24), .ref (h + 246), .ref (h + 253), .ref (h + 256), .ref (h + 260), .ref (h + 264), .ref (h + 268), .ref (h + 272), .ref (h + 277), .ref (h + 279), .ref (h + 281), .ref (h + 294), .null, .int 0]) (by decide) z17 (o18.2.2) (Nat.le_of_ble_eq_true rfl) rfl
  rw [xlet_eq, Te_xu (by decide), Te_gR (by decide) ((eu_ne (by decide)).trans z17) (p := h + 2) rfl, sb]
  rw [show (fX3_init (Te h (eu e17 294 (.inr (3, [.null, .int 0, .int 0, .null, .int 0, .int 0, .null, .null, .null, .null, .null, .null, .null, .null, .null, .null, .null])))) (h + 295) (h + 294) (h + 2)) = _ from c18, sb, w18]
  have P18 := o18.ob.fr (fun i a b => m18 i (by omega))
  have y18 : e18 2 = some (.inr (2, f2 h 2)) := (g18 2 (by decide) (by decide)).trans y17
  obtain ⟨e19, w19, z19, g19, m19⟩ := stp (h := h) (e := e18) (eb := eu e18 307 (.inl (0, 430, .inl (fun _ => 0)))) (lo := 307) (j := 18) (x := .inl (0, 430, .inl (fun _ => 0))) (v := .ref (h + 307)) (L' := [.ref (h + 1), .int 0, .int (-1), .ref (h + 2), .ref (h + 13), .int 0, .ref (h + 24), .ref (h + 246), .ref (h + 253), .ref (h + 256), .ref (h + 260), .ref (h + 264), .ref (h + 268), .ref (h + 272), .ref (h + 277), .ref (h + 279), .ref (h + 281), .ref (h + 294), .ref (h + 307), .int 0]) (by decide) z18 (fun i hi => rfl) (Nat.le_of_ble_eq_true rfl) rfl
  rw [xlet_eq, Te_xu (by decide), w19]
  have P19 : e19 307 = some (zI 430) := (m19 307 (by decide)).trans eu_at
  obtain ⟨e20, w20, z20, g20, m20⟩ := stp (h := h) (e := e19) (eb := e19) (lo := 340) (j := 19) (x := .inr (0, [])) (v := .int 0) (L' := [.ref (h + 1), .int 0, .int (-1), .ref (h + 2), .ref (h + 13), .int 0, .ref (h + 24), .ref (h + 246), .ref (h + 253), .ref (h + 256), .ref (h + 260), .ref (h + 264), .ref (h + 268), .ref (h + 272), .ref (h + 277), .ref (h + 279), .ref (h + 281), .ref (h + 294), .ref (h + 307), .int 0]) (by decide) z19 (fun i hi => (eu_ne (by omega)).symm) (Nat.le_of_ble_eq_true rfl) rfl
  rw [w20]
  have G19 : ∀ i, 0 < i → i < 340 → e20 i = e19 i := g20
  have G18 : ∀ i, 0 < i → i < 307 → e20 i = e18 i := fun i a b => (G19 i a (by omega)).trans (g19 i a (by omega))
  have G17 : ∀ i, 0 < i → i < 294 → e20 i = e17 i := fun i a b => (G18 i a (by omega)).trans (g18 i a (by omega))
  have G16 : ∀ i, 0 < i → i < 281 → e20 i = e16 i := fun i a b => (G17 i a (by omega)).trans (g17 i a (by omega))
  have G15 : ∀ i, 0 < i → i < 279 → e20 i = e15 i := fun i a b => (G16 i a (by omega)).trans (g16 i a (by omega))
  have G14 : ∀ i, 0 < i → i < 277 → e20 i = e14 i := fun i a b => (G15 i a (by omega)).trans (g15 i a (by omega))
  have G13 : ∀ i, 0 < i → i < 272 → e20 i = e13 i := fun i a b => (G14 i a (by omega)).trans (g14 i a (by omega))
  have G12 : ∀ i, 0 < i → i < 268 → e20 i = e12 i := fun i a b => (G13 i a (by omega)).trans (g13 i a (by omega))
  have G11 : ∀ i, 0 < i → i < 264 → e20 i = e11 i := fun i a b => (G12 i a (by omega)).trans (g12 i a (by omega))
  have G10 : ∀ i, 0 < i → i < 260 → e20 i = e10 i := fun i a b => (G11 i a (by omega)).trans (g11 i a (by omega))
  have G9 : ∀ i, 0 < i → i < 256 → e20 i = e9 i := fun i a b => (G10 i a (by omega)).trans (g10 i a (by omega))
  have G8 : ∀ i, 0 < i → i < 253 → e20 i = e8 i := fun i a b => (G9 i a (by omega)).trans (g9 i a (by omega))
  have G7 : ∀ i, 0 < i → i < 246 → e20 i = e7 i := fun i a b => (G8 i a (by omega)).trans (g8 i a (by omega))
  have G6 : ∀ i, 0 < i → i < 24 → e20 i = e6 i := fun i a b => (G7 i a (by omega)).trans (g7 i a (by omega))
  have G5 : ∀ i, 0 < i → i < 24 → e20 i = e5 i := fun i a b => (G6 i a (by omega)).trans (g6 i a (by omega))
  have G4 : ∀ i, 0 < i → i < 13 → e20 i = e4 i := fun i a b => (G5 i a (by omega)).trans (g5 i a (by omega))
  have G3 : ∀ i, 0 < i → i < 2 → e20 i = e3 i := fun i a b => (G4 i a (by omega)).trans (g4 i a (by omega))
  exact ⟨_, rfl, z20, (G3 1 (by decide) (by decide)).trans (o3.2.1 0 (Nat.le_of_ble_eq_true rfl)), P4.fr (fun i a b => G4 i (by omega) (by omega)), P5.fr (fun i a b => G5 i (by omega) (by omega)), P7.fr (fun i a b => G7 i (by omega) (by omega)), P8.fr (fun i a b => G8 i (by omega) (by simp at b; omega)), S8.fr (fun i a b => G8 i (by omega) (by omega)), P9.fr (fun i a b => G9 i (by omega) (Nat.lt_of_lt_of_le b (Nat.le_of_ble_eq_true rfl))), P10.fr (fun i a b => G10 i (by omega) (Nat.lt_of_lt_of_le b (Nat.le_of_ble_eq_true rfl))), P11.fr (fun i a b => G11 i (by omega) (Nat.lt_of_lt_of_le b (Nat.le_of_ble_eq_true rfl))), P12.fr (fun i a b => G12 i (by omega) (Nat.lt_of_lt_of_le b (Nat.le_of_ble_eq_true rfl))), P13.fr (fun i a b => G13 i (by omega) (Nat.lt_of_lt_of_le b (Nat.le_of_ble_eq_true rfl))), P14.fr (fun i a b => G14 i (by omega) (Nat.lt_of_lt_of_le b (Nat.le_of_ble_eq_true rfl))), P15.fr (fun i a b => G15 i (by omega) (Nat.lt_of_lt_of_le b (Nat.le_of_ble_eq_true rfl))), P16.fr (fun i a b => G16 i (by omega) (Nat.lt_of_lt_of_le b (Nat.le_of_ble_eq_true rfl))), P17.fr (fun i a b => G17 i (by omega) (Nat.lt_of_lt_of_le b (Nat.le_of_ble_eq_true rfl))), P18.fr (fun i a b => G18 i (by omega) (Nat.lt_of_lt_of_le b (Nat.le_of_ble_eq_true rfl))), (G19 307 (by decide) (by decide)).trans P19⟩
end RI
