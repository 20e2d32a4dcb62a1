/-! methods: J2_length_9d52b J6_bitCount_0f7a4 J6_compare_7cf53 J7_fill_53178 X0_forget X8_copyFrom X2_copyFrom X0_giveBack X0_keep X10_length X10_letterOf X10_longer X10_backwards X10_countOf X10_fits X10_standsAt X10_holds -/
theorem dJ2_length_9d52b_0 : decode cJ2_length_9d52b 0 = .ok (.aload_n 0, 1) := by decide +kernel
theorem dJ2_length_9d52b_1 : decode cJ2_length_9d52b 1 = .ok (.arraylength, 1) := by decide +kernel
theorem dJ2_length_9d52b_2 : decode cJ2_length_9d52b 2 = .ok (.iconst 1, 1) := by decide +kernel
theorem dJ2_length_9d52b_3 : decode cJ2_length_9d52b 3 = .ok (.ishr, 1) := by decide +kernel
theorem dJ2_length_9d52b_4 : decode cJ2_length_9d52b 4 = .ok (.ireturn, 1) := by decide +kernel
abbrev rmJ2_length_9d52b : Room := { frames := 0, cells := 0, slots := 0, locals := 0 }
noncomputable def fJ2_length_9d52b (σ : St) (x0 : Nat) : Option (Int32) :=
(alen σ x0).bind fun v1 =>
some (v1 >>> (1 &&& 31))
set_option maxHeartbeats 4000000 in
set_option maxRecDepth 100000 in
theorem cJ2_length_9d52bc {l : Launch} {G : xG} {A : Nat → Prop} {σ : St} {x0 : Nat} {c : Int32} (hf : fJ2_length_9d52b σ x0 = some c) : Con l yJ2_length_9d52b (xws yJ2_length_9d52b cJ2_length_9d52b 1 (some .int)) rmJ2_length_9d52b [.ref (x0)] G A σ (some (.int c)) σ := by
  refine x_start rfl (Nat.le_of_ble_eq_true rfl) (fun X _ _ _ C hE0 => ?_)
  have hE : ∀ r, c = r → xE1 X (some (.int r)) σ := fun r e => e ▸ hE0
  show V X (0, 0) σ 0 [(0, .ref (x0))] []
  unfold fJ2_length_9d52b at hf
  refine x_aload_n C dJ2_length_9d52b_0 1 rfl 0 rfl rfl ?_
  obtain ⟨v1, hv1, hf⟩ := x_bind hf
  refine x_alen C dJ2_length_9d52b_1 2 rfl hv1 ?_
  refine x_iconst C dJ2_length_9d52b_2 3 rfl 1 (by decide) ?_
  refine x_ishr C dJ2_length_9d52b_3 4 rfl ?_
  exact x_iret C (hE _ (Option.some.inj hf).symm) dJ2_length_9d52b_4
theorem dJ6_bitCount_0f7a4_0 : decode cJ6_bitCount_0f7a4 0 = .ok (.iload_n 0, 1) := by decide +kernel
theorem dJ6_bitCount_0f7a4_1 : decode cJ6_bitCount_0f7a4 1 = .ok (.iload_n 0, 1) := by decide +kernel
theorem dJ6_bitCount_0f7a4_2 : decode cJ6_bitCount_0f7a4 2 = .ok (.iconst 1, 1) := by decide +kernel
theorem dJ6_bitCount_0f7a4_3 : decode cJ6_bitCount_0f7a4 3 = .ok (.iushr, 1) := by decide +kernel
theorem dJ6_bitCount_0f7a4_4 : decode cJ6_bitCount_0f7a4 4 = .ok (.ldc_w 265, 3) := by decide +kernel
theorem dJ6_bitCount_0f7a4_7 : decode cJ6_bitCount_0f7a4 7 = .ok (.iand, 1) := by decide +kernel
theorem dJ6_bitCount_0f7a4_8 : decode cJ6_bitCount_0f7a4 8 = .ok (.isub, 1) := by decide +kernel
theorem dJ6_bitCount_0f7a4_9 : decode cJ6_bitCount_0f7a4 9 = .ok (.istore_n 0, 1) := by decide +kernel
theorem dJ6_bitCount_0f7a4_10 : decode cJ6_bitCount_0f7a4 10 = .ok (.iload_n 0, 1) := by decide +kernel
theorem dJ6_bitCount_0f7a4_11 : decode cJ6_bitCount_0f7a4 11 = .ok (.ldc_w 266, 3) := by decide +kernel
theorem dJ6_bitCount_0f7a4_14 : decode cJ6_bitCount_0f7a4 14 = .ok (.iand, 1) := by decide +kernel
theorem dJ6_bitCount_0f7a4_15 : decode cJ6_bitCount_0f7a4 15 = .ok (.iload_n 0, 1) := by decide +kernel
theorem dJ6_bitCount_0f7a4_16 : decode cJ6_bitCount_0f7a4 16 = .ok (.iconst 2, 1) := by decide +kernel
theorem dJ6_bitCount_0f7a4_17 : decode cJ6_bitCount_0f7a4 17 = .ok (.iushr, 1) := by decide +kernel
theorem dJ6_bitCount_0f7a4_18 : decode cJ6_bitCount_0f7a4 18 = .ok (.ldc_w 266, 3) := by decide +kernel
theorem dJ6_bitCount_0f7a4_21 : decode cJ6_bitCount_0f7a4 21 = .ok (.iand, 1) := by decide +kernel
theorem dJ6_bitCount_0f7a4_22 : decode cJ6_bitCount_0f7a4 22 = .ok (.iadd, 1) := by decide +kernel
theorem dJ6_bitCount_0f7a4_23 : decode cJ6_bitCount_0f7a4 23 = .ok (.istore_n 0, 1) := by decide +kernel
theorem dJ6_bitCount_0f7a4_24 : decode cJ6_bitCount_0f7a4 24 = .ok (.iload_n 0, 1) := by decide +kernel
theorem dJ6_bitCount_0f7a4_25 : decode cJ6_bitCount_0f7a4 25 = .ok (.iload_n 0, 1) := by decide +kernel
theorem dJ6_bitCount_0f7a4_26 : decode cJ6_bitCount_0f7a4 26 = .ok (.iconst 4, 1) := by decide +kernel
theorem dJ6_bitCount_0f7a4_27 : decode cJ6_bitCount_0f7a4 27 = .ok (.iushr, 1) := by decide +kernel
theorem dJ6_bitCount_0f7a4_28 : decode cJ6_bitCount_0f7a4 28 = .ok (.iadd, 1) := by decide +kernel
theorem dJ6_bitCount_0f7a4_29 : decode cJ6_bitCount_0f7a4 29 = .ok (.ldc_w 267, 3) := by decide +kernel
theorem dJ6_bitCount_0f7a4_32 : decode cJ6_bitCount_0f7a4 32 = .ok (.iand, 1) := by decide +kernel
theorem dJ6_bitCount_0f7a4_33 : decode cJ6_bitCount_0f7a4 33 = .ok (.istore_n 0, 1) := by decide +kernel
theorem dJ6_bitCount_0f7a4_34 : decode cJ6_bitCount_0f7a4 34 = .ok (.iload_n 0, 1) := by decide +kernel
theorem dJ6_bitCount_0f7a4_35 : decode cJ6_bitCount_0f7a4 35 = .ok (.iload_n 0, 1) := by decide +kernel
theorem dJ6_bitCount_0f7a4_36 : decode cJ6_bitCount_0f7a4 36 = .ok (.bipush 8, 2) := by decide +kernel
theorem dJ6_bitCount_0f7a4_38 : decode cJ6_bitCount_0f7a4 38 = .ok (.iushr, 1) := by decide +kernel
theorem dJ6_bitCount_0f7a4_39 : decode cJ6_bitCount_0f7a4 39 = .ok (.iadd, 1) := by decide +kernel
theorem dJ6_bitCount_0f7a4_40 : decode cJ6_bitCount_0f7a4 40 = .ok (.istore_n 0, 1) := by decide +kernel
theorem dJ6_bitCount_0f7a4_41 : decode cJ6_bitCount_0f7a4 41 = .ok (.iload_n 0, 1) := by decide +kernel
theorem dJ6_bitCount_0f7a4_42 : decode cJ6_bitCount_0f7a4 42 = .ok (.iload_n 0, 1) := by decide +kernel
theorem dJ6_bitCount_0f7a4_43 : decode cJ6_bitCount_0f7a4 43 = .ok (.bipush 16, 2) := by decide +kernel
theorem dJ6_bitCount_0f7a4_45 : decode cJ6_bitCount_0f7a4 45 = .ok (.iushr, 1) := by decide +kernel
theorem dJ6_bitCount_0f7a4_46 : decode cJ6_bitCount_0f7a4 46 = .ok (.iadd, 1) := by decide +kernel
theorem dJ6_bitCount_0f7a4_47 : decode cJ6_bitCount_0f7a4 47 = .ok (.istore_n 0, 1) := by decide +kernel
theorem dJ6_bitCount_0f7a4_48 : decode cJ6_bitCount_0f7a4 48 = .ok (.iload_n 0, 1) := by decide +kernel
theorem dJ6_bitCount_0f7a4_49 : decode cJ6_bitCount_0f7a4 49 = .ok (.bipush 63, 2) := by decide +kernel
theorem dJ6_bitCount_0f7a4_51 : decode cJ6_bitCount_0f7a4 51 = .ok (.iand, 1) := by decide +kernel
theorem dJ6_bitCount_0f7a4_52 : decode cJ6_bitCount_0f7a4 52 = .ok (.ireturn, 1) := by decide +kernel
abbrev rmJ6_bitCount_0f7a4 : Room := { frames := 0, cells := 0, slots := 0, locals := 0 }
noncomputable def fJ6_bitCount_0f7a4 (x0 : Int32) : Option (Int32) :=
xlet (x0 - (((x0.toUInt32 >>> ((1 : Int32).toUInt32 &&& Int32.toUInt32 31)).toInt32) &&& 1431655765)) fun v9 =>
xlet ((v9 &&& 858993459) + (((v9.toUInt32 >>> ((2 : Int32).toUInt32 &&& Int32.toUInt32 31)).toInt32) &&& 858993459)) fun v23 =>
xlet ((v23 + ((v23.toUInt32 >>> ((4 : Int32).toUInt32 &&& Int32.toUInt32 31)).toInt32)) &&& 252645135) fun v33 =>
xlet (v33 + ((v33.toUInt32 >>> ((8 : Int32).toUInt32 &&& Int32.toUInt32 31)).toInt32)) fun v40 =>
xlet (v40 + ((v40.toUInt32 >>> ((16 : Int32).toUInt32 &&& Int32.toUInt32 31)).toInt32)) fun v47 =>
some (v47 &&& 63)
set_option maxHeartbeats 4000000 in
set_option maxRecDepth 100000 in
theorem cJ6_bitCount_0f7a4c {l : Launch} {G : xG} {A : Nat → Prop} {σ : St} {x0 : Int32} {c : Int32} (hf : fJ6_bitCount_0f7a4 x0 = some c) : Con l yJ6_bitCount_0f7a4 (xws yJ6_bitCount_0f7a4 cJ6_bitCount_0f7a4 1 (some .int)) rmJ6_bitCount_0f7a4 [.int (x0)] G A σ (some (.int c)) σ := by
  refine x_start rfl (Nat.le_of_ble_eq_true rfl) (fun X _ _ _ C hE0 => ?_)
  have hE : ∀ r, c = r → xE1 X (some (.int r)) σ := fun r e => e ▸ hE0
  show V X (0, 0) σ 0 [(0, .int (x0))] []
  unfold fJ6_bitCount_0f7a4 at hf
  refine x_iload_n C dJ6_bitCount_0f7a4_0 1 rfl 0 rfl rfl ?_
  refine x_iload_n C dJ6_bitCount_0f7a4_1 2 rfl 0 rfl rfl ?_
  refine x_iconst C dJ6_bitCount_0f7a4_2 3 rfl 1 (by decide) ?_
  refine x_iushr C dJ6_bitCount_0f7a4_3 4 rfl ?_
  refine x_ldcw C dJ6_bitCount_0f7a4_4 7 rfl w961 ?_
  refine x_iand C dJ6_bitCount_0f7a4_7 8 rfl ?_
  refine x_isub C dJ6_bitCount_0f7a4_8 9 rfl ?_
  obtain ⟨v9, ev9, hf⟩ := xlet_some hf
  refine x_topi ev9 ?_
  refine x_istore_n C dJ6_bitCount_0f7a4_9 10 rfl rfl rfl [(0, .int (v9))] rfl ?_
  refine x_iload_n C dJ6_bitCount_0f7a4_10 11 rfl 0 rfl rfl ?_
  refine x_ldcw C dJ6_bitCount_0f7a4_11 14 rfl w962 ?_
  refine x_iand C dJ6_bitCount_0f7a4_14 15 rfl ?_
  refine x_iload_n C dJ6_bitCount_0f7a4_15 16 rfl 0 rfl rfl ?_
  refine x_iconst C dJ6_bitCount_0f7a4_16 17 rfl 2 (by decide) ?_
  refine x_iushr C dJ6_bitCount_0f7a4_17 18 rfl ?_
  refine x_ldcw C dJ6_bitCount_0f7a4_18 21 rfl w962 ?_
  refine x_iand C dJ6_bitCount_0f7a4_21 22 rfl ?_
  refine x_iadd C dJ6_bitCount_0f7a4_22 23 rfl ?_
  obtain ⟨v23, ev23, hf⟩ := xlet_some hf
  refine x_topi ev23 ?_
  refine x_istore_n C dJ6_bitCount_0f7a4_23 24 rfl rfl rfl [(0, .int (v23))] rfl ?_
  refine x_iload_n C dJ6_bitCount_0f7a4_24 25 rfl 0 rfl rfl ?_
  refine x_iload_n C dJ6_bitCount_0f7a4_25 26 rfl 0 rfl rfl ?_
  refine x_iconst C dJ6_bitCount_0f7a4_26 27 rfl 4 (by decide) ?_
  refine x_iushr C dJ6_bitCount_0f7a4_27 28 rfl ?_
  refine x_iadd C dJ6_bitCount_0f7a4_28 29 rfl ?_
  refine x_ldcw C dJ6_bitCount_0f7a4_29 32 rfl w963 ?_
  refine x_iand C dJ6_bitCount_0f7a4_32 33 rfl ?_
  obtain ⟨v33, ev33, hf⟩ := xlet_some hf
  refine x_topi ev33 ?_
  refine x_istore_n C dJ6_bitCount_0f7a4_33 34 rfl rfl rfl [(0, .int (v33))] rfl ?_
  refine x_iload_n C dJ6_bitCount_0f7a4_34 35 rfl 0 rfl rfl ?_
  refine x_iload_n C dJ6_bitCount_0f7a4_35 36 rfl 0 rfl rfl ?_
  refine x_bipush C dJ6_bitCount_0f7a4_36 38 rfl 8 (by decide) ?_
  refine x_iushr C dJ6_bitCount_0f7a4_38 39 rfl ?_
  refine x_iadd C dJ6_bitCount_0f7a4_39 40 rfl ?_
  obtain ⟨v40, ev40, hf⟩ := xlet_some hf
  refine x_topi ev40 ?_
  refine x_istore_n C dJ6_bitCount_0f7a4_40 41 rfl rfl rfl [(0, .int (v40))] rfl ?_
  refine x_iload_n C dJ6_bitCount_0f7a4_41 42 rfl 0 rfl rfl ?_
  refine x_iload_n C dJ6_bitCount_0f7a4_42 43 rfl 0 rfl rfl ?_
  refine x_bipush C dJ6_bitCount_0f7a4_43 45 rfl 16 (by decide) ?_
  refine x_iushr C dJ6_bitCount_0f7a4_45 46 rfl ?_
  refine x_iadd C dJ6_bitCount_0f7a4_46 47 rfl ?_
  obtain ⟨v47, ev47, hf⟩ := xlet_some hf
  refine x_topi ev47 ?_
  refine x_istore_n C dJ6_bitCount_0f7a4_47 48 rfl rfl rfl [(0, .int (v47))] rfl ?_
  refine x_iload_n C dJ6_bitCount_0f7a4_48 49 rfl 0 rfl rfl ?_
  refine x_bipush C dJ6_bitCount_0f7a4_49 51 rfl 63 (by decide) ?_
  refine x_iand C dJ6_bitCount_0f7a4_51 52 rfl ?_
  exact x_iret C (hE _ (Option.some.inj hf).symm) dJ6_bitCount_0f7a4_52
theorem dJ6_compare_7cf53_0 : decode cJ6_compare_7cf53 0 = .ok (.iload_n 0, 1) := by decide +kernel
theorem dJ6_compare_7cf53_1 : decode cJ6_compare_7cf53 1 = .ok (.iload_n 1, 1) := by decide +kernel
theorem dJ6_compare_7cf53_2 : decode cJ6_compare_7cf53 2 = .ok (.if_icmp .ge 7, 3) := by decide +kernel
theorem dJ6_compare_7cf53_5 : decode cJ6_compare_7cf53 5 = .ok (.iconst (-1), 1) := by decide +kernel
theorem dJ6_compare_7cf53_6 : decode cJ6_compare_7cf53 6 = .ok (.goto 13, 3) := by decide +kernel
theorem dJ6_compare_7cf53_9 : decode cJ6_compare_7cf53 9 = .ok (.iload_n 0, 1) := by decide +kernel
theorem dJ6_compare_7cf53_10 : decode cJ6_compare_7cf53 10 = .ok (.iload_n 1, 1) := by decide +kernel
theorem dJ6_compare_7cf53_11 : decode cJ6_compare_7cf53 11 = .ok (.if_icmp .ne 7, 3) := by decide +kernel
theorem dJ6_compare_7cf53_14 : decode cJ6_compare_7cf53 14 = .ok (.iconst 0, 1) := by decide +kernel
theorem dJ6_compare_7cf53_15 : decode cJ6_compare_7cf53 15 = .ok (.goto 4, 3) := by decide +kernel
theorem dJ6_compare_7cf53_18 : decode cJ6_compare_7cf53 18 = .ok (.iconst 1, 1) := by decide +kernel
theorem dJ6_compare_7cf53_19 : decode cJ6_compare_7cf53 19 = .ok (.ireturn, 1) := by decide +kernel
abbrev rmJ6_compare_7cf53 : Room := { frames := 0, cells := 0, slots := 0, locals := 0 }
noncomputable def fJ6_compare_7cf53 (x0 : Int32) (x1 : Int32) : Option (Int32) :=
if x1 ≤ x0 then
(if x0 = x1 then
(some 0)
else
(some 1))
else
(some (-1))
set_option maxHeartbeats 4000000 in
set_option maxRecDepth 100000 in
theorem cJ6_compare_7cf53c {l : Launch} {G : xG} {A : Nat → Prop} {σ : St} {x0 : Int32} {x1 : Int32} {c : Int32} (hf : fJ6_compare_7cf53 x0 x1 = some c) : Con l yJ6_compare_7cf53 (xws yJ6_compare_7cf53 cJ6_compare_7cf53 2 (some .int)) rmJ6_compare_7cf53 [.int (x0), .int (x1)] G A σ (some (.int c)) σ := by
  refine x_start rfl (Nat.le_of_ble_eq_true rfl) (fun X _ _ _ C hE0 => ?_)
  have hE : ∀ r, c = r → xE1 X (some (.int r)) σ := fun r e => e ▸ hE0
  show V X (0, 0) σ 0 [(0, .int (x0)), (1, .int (x1))] []
  unfold fJ6_compare_7cf53 at hf
  refine x_iload_n C dJ6_compare_7cf53_0 1 rfl 0 rfl rfl ?_
  refine x_iload_n C dJ6_compare_7cf53_1 2 rfl 1 rfl rfl ?_
  refine x_icmp_ge C dJ6_compare_7cf53_2 9 (by decide) 5 rfl (fun hc => ?_) (fun hc => ?_)
  · have hf := (if_pos hc).symm.trans hf
    refine x_iload_n C dJ6_compare_7cf53_9 10 rfl 0 rfl rfl ?_
    refine x_iload_n C dJ6_compare_7cf53_10 11 rfl 1 rfl rfl ?_
    refine x_icmp_ne C dJ6_compare_7cf53_11 18 (by decide) 14 rfl (fun hc => ?_) (fun hc => ?_)
    · have hf := (if_neg hc).symm.trans hf
      refine x_iconst C dJ6_compare_7cf53_18 19 rfl 1 (by decide) ?_
      exact x_iret C (hE _ (Option.some.inj hf).symm) dJ6_compare_7cf53_19
    · have hf := (if_pos hc).symm.trans hf
      refine x_iconst C dJ6_compare_7cf53_14 15 rfl 0 (by decide) ?_
      refine x_goto C dJ6_compare_7cf53_15 19 (by decide) ?_
      exact x_iret C (hE _ (Option.some.inj hf).symm) dJ6_compare_7cf53_19
  · have hf := (if_neg hc).symm.trans hf
    refine x_iconst C dJ6_compare_7cf53_5 6 rfl (-1) (by decide) ?_
    refine x_goto C dJ6_compare_7cf53_6 19 (by decide) ?_
    exact x_iret C (hE _ (Option.some.inj hf).symm) dJ6_compare_7cf53_19
theorem dJ7_fill_53178_0 : decode cJ7_fill_53178 0 = .ok (.iconst 0, 1) := by decide +kernel
theorem dJ7_fill_53178_1 : decode cJ7_fill_53178 1 = .ok (.istore_n 2, 1) := by decide +kernel
theorem dJ7_fill_53178_2 : decode cJ7_fill_53178 2 = .ok (.aload_n 0, 1) := by decide +kernel
theorem dJ7_fill_53178_3 : decode cJ7_fill_53178 3 = .ok (.arraylength, 1) := by decide +kernel
theorem dJ7_fill_53178_4 : decode cJ7_fill_53178 4 = .ok (.istore_n 3, 1) := by decide +kernel
theorem dJ7_fill_53178_5 : decode cJ7_fill_53178 5 = .ok (.iload_n 2, 1) := by decide +kernel
theorem dJ7_fill_53178_6 : decode cJ7_fill_53178 6 = .ok (.iload_n 3, 1) := by decide +kernel
theorem dJ7_fill_53178_7 : decode cJ7_fill_53178 7 = .ok (.if_icmp .ge 13, 3) := by decide +kernel
theorem dJ7_fill_53178_10 : decode cJ7_fill_53178 10 = .ok (.aload_n 0, 1) := by decide +kernel
theorem dJ7_fill_53178_11 : decode cJ7_fill_53178 11 = .ok (.iload_n 2, 1) := by decide +kernel
theorem dJ7_fill_53178_12 : decode cJ7_fill_53178 12 = .ok (.iload_n 1, 1) := by decide +kernel
theorem dJ7_fill_53178_13 : decode cJ7_fill_53178 13 = .ok (.iastore, 1) := by decide +kernel
theorem dJ7_fill_53178_14 : decode cJ7_fill_53178 14 = .ok (.iinc 2 1, 3) := by decide +kernel
theorem dJ7_fill_53178_17 : decode cJ7_fill_53178 17 = .ok (.goto (-12), 3) := by decide +kernel
theorem dJ7_fill_53178_20 : decode cJ7_fill_53178 20 = .ok (.return_, 1) := by decide +kernel
abbrev rmJ7_fill_53178 : Room := { frames := 0, cells := 0, slots := 0, locals := 0 }
noncomputable def fLJ7_fill_53178_5 (x0 : Nat) (x1 : Int32) (x3 : Int32) (a : Int32 × St) : Option ((Int32 × St) ⊕ (St)) :=
if x3 ≤ a.1 then
(some (Sum.inr a.2))
else
((sI a.2 x0 a.1 x1).bind fun σ13 =>
xlet (a.1 + 1) fun v14 =>
some (Sum.inl (v14, σ13)))
set_option maxHeartbeats 4000000 in
set_option maxRecDepth 100000 in
theorem lpJ7_fill_53178_5 {X : xX} {x0 : Nat} {x1 : Int32} {x3 : Int32}  {a0 : Int32 × St} {b : St} (C : Ok X cJ7_fill_53178 4 RJ7 rmJ7_fill_53178 none) (hb : iterP (fLJ7_fill_53178_5 x0 x1 x3) a0 = some b) (hy0 : ∀ s, b = s → V X (0, 0) s 20 [] []) : V X (0, 0) a0.2 5 [(0, .ref (x0)), (1, .int (x1)), (2, .int (a0.1)), (3, .int (x3))] [] := by
  obtain ⟨n, hn⟩ := iterP_some hb
  refine x_loop (P := fun a => V X (0, 0) a.2 5 [(0, .ref (x0)), (1, .int (x1)), (2, .int (a.1)), (3, .int (x3))] []) ?_ n a0 hn
  intro a c hf hK hxx
  have hx0 : ∀ s, c = Sum.inr s → V X (0, 0) s 20 [] [] := fun s e => hy0 s (hxx _ e).symm
  unfold fLJ7_fill_53178_5 at hf
  refine x_iload_n C dJ7_fill_53178_5 6 rfl 2 rfl rfl ?_
  refine x_iload_n C dJ7_fill_53178_6 7 rfl 3 rfl rfl ?_
  refine x_icmp_ge C dJ7_fill_53178_7 20 (by decide) 10 rfl (fun hc => ?_) (fun hc => ?_)
  · have hf := (if_pos hc).symm.trans hf
    refine x_lv [] (lv' := []) rfl ?_
    exact hx0 _ (Option.some.inj hf).symm
  · have hf := (if_neg hc).symm.trans hf
    refine x_aload_n C dJ7_fill_53178_10 11 rfl 0 rfl rfl ?_
    refine x_iload_n C dJ7_fill_53178_11 12 rfl 2 rfl rfl ?_
    refine x_iload_n C dJ7_fill_53178_12 13 rfl 1 rfl rfl ?_
    obtain ⟨σ13, hσ13, hf⟩ := x_bind hf
    refine x_iastore C dJ7_fill_53178_13 14 rfl hσ13 ?_
    obtain ⟨v14, ev14, hf⟩ := xlet_some hf
    refine x_iinc C dJ7_fill_53178_14 17 rfl 2 rfl v14 ev14 rfl [(2, .int (v14)), (0, .ref (x0)), (1, .int (x1)), (3, .int (x3))] rfl ?_
    refine x_goto C dJ7_fill_53178_17 5 (by decide) ?_
    refine x_lv [1, 2, 0, 3] (lv' := [(0, .ref (x0)), (1, .int (x1)), (2, .int (v14)), (3, .int (x3))]) rfl ?_
    exact hK _ (Option.some.inj hf).symm
noncomputable def fJ7_fill_53178 (σ : St) (x0 : Nat) (x1 : Int32) : Option (St) :=
(alen σ x0).bind fun v3 =>
(iterP (fLJ7_fill_53178_5 x0 x1 v3) (0, σ)).bind fun b5 =>
some b5
set_option maxHeartbeats 4000000 in
set_option maxRecDepth 100000 in
theorem cJ7_fill_53178c {l : Launch} {G : xG} {A : Nat → Prop} {σ : St} {x0 : Nat} {x1 : Int32} {c : St} (hf : fJ7_fill_53178 σ x0 x1 = some c) : Con l yJ7_fill_53178 (xws yJ7_fill_53178 cJ7_fill_53178 4 none) rmJ7_fill_53178 [.ref (x0), .int (x1)] G A σ none c := by
  refine x_start rfl (Nat.le_of_ble_eq_true rfl) (fun X _ _ _ C hE0 => ?_)
  have hE : ∀ r, c = r → xE1 X none r := fun r e => e ▸ hE0
  show V X (0, 0) σ 0 [(0, .ref (x0)), (1, .int (x1))] []
  unfold fJ7_fill_53178 at hf
  refine x_iconst C dJ7_fill_53178_0 1 rfl 0 (by decide) ?_
  refine x_istore_n C dJ7_fill_53178_1 2 rfl rfl rfl [(2, .int (0)), (0, .ref (x0)), (1, .int (x1))] rfl ?_
  refine x_aload_n C dJ7_fill_53178_2 3 rfl 1 rfl rfl ?_
  obtain ⟨v3, hv3, hf⟩ := x_bind hf
  refine x_alen C dJ7_fill_53178_3 4 rfl hv3 ?_
  refine x_istore_n C dJ7_fill_53178_4 5 rfl rfl rfl [(3, .int (v3)), (2, .int (0)), (0, .ref (x0)), (1, .int (x1))] rfl ?_
  obtain ⟨b5, hb5, hf⟩ := x_bind hf
  refine x_lv [2, 3, 1, 0] (lv' := [(0, .ref (x0)), (1, .int (x1)), (2, .int (0)), (3, .int (v3))]) rfl ?_
  refine lpJ7_fill_53178_5 C hb5 (fun s5 e5 => ?_)
  subst e5
  exact x_vret C (hE _ (Option.some.inj hf).symm) dJ7_fill_53178_20
theorem dX0_forget_0 : decode cX0_forget 0 = .ok (.aload_n 0, 1) := by decide +kernel
theorem dX0_forget_1 : decode cX0_forget 1 = .ok (.iconst 0, 1) := by decide +kernel
theorem dX0_forget_2 : decode cX0_forget 2 = .ok (.putfield 21, 3) := by decide +kernel
theorem dX0_forget_5 : decode cX0_forget 5 = .ok (.return_, 1) := by decide +kernel
abbrev rmX0_forget : Room := { frames := 0, cells := 0, slots := 0, locals := 0 }
noncomputable def fX0_forget (σ : St) (x0 : Nat) : Option (St) :=
(wrF σ x0 0 2 (.int (0))).bind fun σ2 =>
some σ2
set_option maxHeartbeats 4000000 in
set_option maxRecDepth 100000 in
theorem cX0_forgetc {l : Launch} {G : xG} {A : Nat → Prop} {σ : St} {x0 : Nat} {c : St} (hf : fX0_forget σ x0 = some c) : Con l yX0_forget (xws yX0_forget cX0_forget 1 none) rmX0_forget [.ref (x0)] G A σ none c := by
  refine x_start rfl (Nat.le_of_ble_eq_true rfl) (fun X _ _ _ C hE0 => ?_)
  have hE : ∀ r, c = r → xE1 X none r := fun r e => e ▸ hE0
  show V X (0, 0) σ 0 [(0, .ref (x0))] []
  unfold fX0_forget at hf
  refine x_aload_n C dX0_forget_0 1 rfl 0 rfl rfl ?_
  refine x_iconst C dX0_forget_1 2 rfl 0 (by decide) ?_
  obtain ⟨σ2, hσ2, hf⟩ := x_bind hf
  refine x_putX C dX0_forget_2 5 rfl hσ2 cl0 rfl w268 rfl rfl rfl ?_
  exact x_vret C (hE _ (Option.some.inj hf).symm) dX0_forget_5
theorem dX8_copyFrom_0 : decode cX8_copyFrom 0 = .ok (.aload_n 0, 1) := by decide +kernel
theorem dX8_copyFrom_1 : decode cX8_copyFrom 1 = .ok (.aload_n 1, 1) := by decide +kernel
theorem dX8_copyFrom_2 : decode cX8_copyFrom 2 = .ok (.getfield 9, 3) := by decide +kernel
theorem dX8_copyFrom_5 : decode cX8_copyFrom 5 = .ok (.putfield 9, 3) := by decide +kernel
theorem dX8_copyFrom_8 : decode cX8_copyFrom 8 = .ok (.aload_n 0, 1) := by decide +kernel
theorem dX8_copyFrom_9 : decode cX8_copyFrom 9 = .ok (.aload_n 1, 1) := by decide +kernel
theorem dX8_copyFrom_10 : decode cX8_copyFrom 10 = .ok (.getfield 15, 3) := by decide +kernel
theorem dX8_copyFrom_13 : decode cX8_copyFrom 13 = .ok (.putfield 15, 3) := by decide +kernel
theorem dX8_copyFrom_16 : decode cX8_copyFrom 16 = .ok (.aload_n 1, 1) := by decide +kernel
theorem dX8_copyFrom_17 : decode cX8_copyFrom 17 = .ok (.getfield 18, 3) := by decide +kernel
theorem dX8_copyFrom_20 : decode cX8_copyFrom 20 = .ok (.iconst 0, 1) := by decide +kernel
theorem dX8_copyFrom_21 : decode cX8_copyFrom 21 = .ok (.aload_n 0, 1) := by decide +kernel
theorem dX8_copyFrom_22 : decode cX8_copyFrom 22 = .ok (.getfield 18, 3) := by decide +kernel
theorem dX8_copyFrom_25 : decode cX8_copyFrom 25 = .ok (.iconst 0, 1) := by decide +kernel
theorem dX8_copyFrom_26 : decode cX8_copyFrom 26 = .ok (.bipush 12, 2) := by decide +kernel
theorem dX8_copyFrom_28 : decode cX8_copyFrom 28 = .ok (.invokestatic 45, 3) := by decide +kernel
theorem dX8_copyFrom_31 : decode cX8_copyFrom 31 = .ok (.aload_n 1, 1) := by decide +kernel
theorem dX8_copyFrom_32 : decode cX8_copyFrom 32 = .ok (.getfield 22, 3) := by decide +kernel
theorem dX8_copyFrom_35 : decode cX8_copyFrom 35 = .ok (.iconst 0, 1) := by decide +kernel
theorem dX8_copyFrom_36 : decode cX8_copyFrom 36 = .ok (.aload_n 0, 1) := by decide +kernel
theorem dX8_copyFrom_37 : decode cX8_copyFrom 37 = .ok (.getfield 22, 3) := by decide +kernel
theorem dX8_copyFrom_40 : decode cX8_copyFrom 40 = .ok (.iconst 0, 1) := by decide +kernel
theorem dX8_copyFrom_41 : decode cX8_copyFrom 41 = .ok (.bipush 12, 2) := by decide +kernel
theorem dX8_copyFrom_43 : decode cX8_copyFrom 43 = .ok (.invokestatic 45, 3) := by decide +kernel
theorem dX8_copyFrom_46 : decode cX8_copyFrom 46 = .ok (.aload_n 1, 1) := by decide +kernel
theorem dX8_copyFrom_47 : decode cX8_copyFrom 47 = .ok (.getfield 25, 3) := by decide +kernel
theorem dX8_copyFrom_50 : decode cX8_copyFrom 50 = .ok (.iconst 0, 1) := by decide +kernel
theorem dX8_copyFrom_51 : decode cX8_copyFrom 51 = .ok (.aload_n 0, 1) := by decide +kernel
theorem dX8_copyFrom_52 : decode cX8_copyFrom 52 = .ok (.getfield 25, 3) := by decide +kernel
theorem dX8_copyFrom_55 : decode cX8_copyFrom 55 = .ok (.iconst 0, 1) := by decide +kernel
theorem dX8_copyFrom_56 : decode cX8_copyFrom 56 = .ok (.iconst 5, 1) := by decide +kernel
theorem dX8_copyFrom_57 : decode cX8_copyFrom 57 = .ok (.invokestatic 45, 3) := by decide +kernel
theorem dX8_copyFrom_60 : decode cX8_copyFrom 60 = .ok (.aload_n 1, 1) := by decide +kernel
theorem dX8_copyFrom_61 : decode cX8_copyFrom 61 = .ok (.getfield 29, 3) := by decide +kernel
theorem dX8_copyFrom_64 : decode cX8_copyFrom 64 = .ok (.iconst 0, 1) := by decide +kernel
theorem dX8_copyFrom_65 : decode cX8_copyFrom 65 = .ok (.aload_n 0, 1) := by decide +kernel
theorem dX8_copyFrom_66 : decode cX8_copyFrom 66 = .ok (.getfield 29, 3) := by decide +kernel
theorem dX8_copyFrom_69 : decode cX8_copyFrom 69 = .ok (.iconst 0, 1) := by decide +kernel
theorem dX8_copyFrom_70 : decode cX8_copyFrom 70 = .ok (.iconst 5, 1) := by decide +kernel
theorem dX8_copyFrom_71 : decode cX8_copyFrom 71 = .ok (.invokestatic 45, 3) := by decide +kernel
theorem dX8_copyFrom_74 : decode cX8_copyFrom 74 = .ok (.aload_n 0, 1) := by decide +kernel
theorem dX8_copyFrom_75 : decode cX8_copyFrom 75 = .ok (.dup, 1) := by decide +kernel
theorem dX8_copyFrom_76 : decode cX8_copyFrom 76 = .ok (.getfield 32, 3) := by decide +kernel
theorem dX8_copyFrom_79 : decode cX8_copyFrom 79 = .ok (.iconst 1, 1) := by decide +kernel
theorem dX8_copyFrom_80 : decode cX8_copyFrom 80 = .ok (.iadd, 1) := by decide +kernel
theorem dX8_copyFrom_81 : decode cX8_copyFrom 81 = .ok (.putfield 32, 3) := by decide +kernel
theorem dX8_copyFrom_84 : decode cX8_copyFrom 84 = .ok (.return_, 1) := by decide +kernel
abbrev rmX8_copyFrom : Room := { frames := 1, cells := 0, slots := 0, locals := 60 }
noncomputable def fX8_copyFrom (σ : St) (x0 : Nat) (x1 : Nat) : Option (St) :=
(gI σ x1 8 0).bind fun v2 =>
(wrF σ x0 8 0 (.int (v2))).bind fun σ5 =>
(gI σ5 x1 8 1).bind fun v10 =>
(wrF σ5 x0 8 1 (.int (v10))).bind fun σ13 =>
(gR σ13 x1 8 2).bind fun v17 =>
(gR σ13 x0 8 2).bind fun v22 =>
(acL σ13 v17 0 v22 0 12).bind fun σ28 =>
(gR σ28 x1 8 3).bind fun v32 =>
(gR σ28 x0 8 3).bind fun v37 =>
(acL σ28 v32 0 v37 0 12).bind fun σ43 =>
(gR σ43 x1 8 4).bind fun v47 =>
(gR σ43 x0 8 4).bind fun v52 =>
(acI σ43 v47 0 v52 0 5).bind fun σ57 =>
(gR σ57 x1 8 5).bind fun v61 =>
(gR σ57 x0 8 5).bind fun v66 =>
(acI σ57 v61 0 v66 0 5).bind fun σ71 =>
(gI σ71 x0 8 6).bind fun v76 =>
(wrF σ71 x0 8 6 (.int (v76 + 1))).bind fun σ81 =>
some σ81
set_option maxHeartbeats 4000000 in
set_option maxRecDepth 100000 in
theorem cX8_copyFromc {l : Launch} {G : xG} {A : Nat → Prop} {σ : St} {x0 : Nat} {x1 : Nat} {c : St} (hf : fX8_copyFrom σ x0 x1 = some c) : Con l yX8_copyFrom (xws yX8_copyFrom cX8_copyFrom 2 none) rmX8_copyFrom [.ref (x0), .ref (x1)] G A σ none c := by
  refine x_start rfl (Nat.le_of_ble_eq_true rfl) (fun X _ _ _ C hE0 => ?_)
  have hE : ∀ r, c = r → xE1 X none r := fun r e => e ▸ hE0
  show V X (0, 0) σ 0 [(0, .ref (x0)), (1, .ref (x1))] []
  unfold fX8_copyFrom at hf
  refine x_aload_n C dX8_copyFrom_0 1 rfl 0 rfl rfl ?_
  refine x_aload_n C dX8_copyFrom_1 2 rfl 1 rfl rfl ?_
  obtain ⟨v2, hv2, hf⟩ := x_bind hf
  refine x_getI C dX8_copyFrom_2 5 rfl hv2 cl8 rfl w178 ?_
  obtain ⟨σ5, hσ5, hf⟩ := x_bind hf
  refine x_putX C dX8_copyFrom_5 8 rfl hσ5 cl8 rfl w178 rfl rfl rfl ?_
  refine x_aload_n C dX8_copyFrom_8 9 rfl 0 rfl rfl ?_
  refine x_aload_n C dX8_copyFrom_9 10 rfl 1 rfl rfl ?_
  obtain ⟨v10, hv10, hf⟩ := x_bind hf
  refine x_getI C dX8_copyFrom_10 13 rfl hv10 cl8 rfl w182 ?_
  obtain ⟨σ13, hσ13, hf⟩ := x_bind hf
  refine x_putX C dX8_copyFrom_13 16 rfl hσ13 cl8 rfl w182 rfl rfl rfl ?_
  refine x_aload_n C dX8_copyFrom_16 17 rfl 1 rfl rfl ?_
  obtain ⟨v17, hv17, hf⟩ := x_bind hf
  refine x_getR C dX8_copyFrom_17 20 rfl hv17 cl8 rfl w189 ?_
  refine x_iconst C dX8_copyFrom_20 21 rfl 0 (by decide) ?_
  refine x_aload_n C dX8_copyFrom_21 22 rfl 0 rfl rfl ?_
  obtain ⟨v22, hv22, hf⟩ := x_bind hf
  refine x_getR C dX8_copyFrom_22 25 rfl hv22 cl8 rfl w189 ?_
  refine x_iconst C dX8_copyFrom_25 26 rfl 0 (by decide) ?_
  refine x_bipush C dX8_copyFrom_26 28 rfl 12 (by decide) ?_
  obtain ⟨σ28, hσ28, hf⟩ := x_bind hf
  refine x_copyL C dX8_copyFrom_28 31 rfl w630 acw ⟨Nat.le_of_ble_eq_true rfl, Nat.le_of_ble_eq_true rfl⟩ hσ28 ?_
  refine x_aload_n C dX8_copyFrom_31 32 rfl 1 rfl rfl ?_
  obtain ⟨v32, hv32, hf⟩ := x_bind hf
  refine x_getR C dX8_copyFrom_32 35 rfl hv32 cl8 rfl w196 ?_
  refine x_iconst C dX8_copyFrom_35 36 rfl 0 (by decide) ?_
  refine x_aload_n C dX8_copyFrom_36 37 rfl 0 rfl rfl ?_
  obtain ⟨v37, hv37, hf⟩ := x_bind hf
  refine x_getR C dX8_copyFrom_37 40 rfl hv37 cl8 rfl w196 ?_
  refine x_iconst C dX8_copyFrom_40 41 rfl 0 (by decide) ?_
  refine x_bipush C dX8_copyFrom_41 43 rfl 12 (by decide) ?_
  obtain ⟨σ43, hσ43, hf⟩ := x_bind hf
  refine x_copyL C dX8_copyFrom_43 46 rfl w630 acw ⟨Nat.le_of_ble_eq_true rfl, Nat.le_of_ble_eq_true rfl⟩ hσ43 ?_
  refine x_aload_n C dX8_copyFrom_46 47 rfl 1 rfl rfl ?_
  obtain ⟨v47, hv47, hf⟩ := x_bind hf
  refine x_getR C dX8_copyFrom_47 50 rfl hv47 cl8 rfl w202 ?_
  refine x_iconst C dX8_copyFrom_50 51 rfl 0 (by decide) ?_
  refine x_aload_n C dX8_copyFrom_51 52 rfl 0 rfl rfl ?_
  obtain ⟨v52, hv52, hf⟩ := x_bind hf
  refine x_getR C dX8_copyFrom_52 55 rfl hv52 cl8 rfl w202 ?_
  refine x_iconst C dX8_copyFrom_55 56 rfl 0 (by decide) ?_
  refine x_iconst C dX8_copyFrom_56 57 rfl 5 (by decide) ?_
  obtain ⟨σ57, hσ57, hf⟩ := x_bind hf
  refine x_copyI C dX8_copyFrom_57 60 rfl w630 acw ⟨Nat.le_of_ble_eq_true rfl, Nat.le_of_ble_eq_true rfl⟩ hσ57 ?_
  refine x_aload_n C dX8_copyFrom_60 61 rfl 1 rfl rfl ?_
  obtain ⟨v61, hv61, hf⟩ := x_bind hf
  refine x_getR C dX8_copyFrom_61 64 rfl hv61 cl8 rfl w205 ?_
  refine x_iconst C dX8_copyFrom_64 65 rfl 0 (by decide) ?_
  refine x_aload_n C dX8_copyFrom_65 66 rfl 0 rfl rfl ?_
  obtain ⟨v66, hv66, hf⟩ := x_bind hf
  refine x_getR C dX8_copyFrom_66 69 rfl hv66 cl8 rfl w205 ?_
  refine x_iconst C dX8_copyFrom_69 70 rfl 0 (by decide) ?_
  refine x_iconst C dX8_copyFrom_70 71 rfl 5 (by decide) ?_
  obtain ⟨σ71, hσ71, hf⟩ := x_bind hf
  refine x_copyI C dX8_copyFrom_71 74 rfl w630 acw ⟨Nat.le_of_ble_eq_true rfl, Nat.le_of_ble_eq_true rfl⟩ hσ71 ?_
  refine x_aload_n C dX8_copyFrom_74 75 rfl 0 rfl rfl ?_
  refine x_dup C dX8_copyFrom_75 76 rfl rfl ?_
  obtain ⟨v76, hv76, hf⟩ := x_bind hf
  refine x_getI C dX8_copyFrom_76 79 rfl hv76 cl8 rfl w208 ?_
  refine x_iconst C dX8_copyFrom_79 80 rfl 1 (by decide) ?_
  refine x_iadd C dX8_copyFrom_80 81 rfl ?_
  obtain ⟨σ81, hσ81, hf⟩ := x_bind hf
  refine x_putX C dX8_copyFrom_81 84 rfl hσ81 cl8 rfl w208 rfl rfl rfl ?_
  exact x_vret C (hE _ (Option.some.inj hf).symm) dX8_copyFrom_84
theorem dX2_copyFrom_0 : decode cX2_copyFrom 0 = .ok (.aload_n 0, 1) := by decide +kernel
theorem dX2_copyFrom_1 : decode cX2_copyFrom 1 = .ok (.getfield 12, 3) := by decide +kernel
theorem dX2_copyFrom_4 : decode cX2_copyFrom 4 = .ok (.aload_n 1, 1) := by decide +kernel
theorem dX2_copyFrom_5 : decode cX2_copyFrom 5 = .ok (.getfield 12, 3) := by decide +kernel
theorem dX2_copyFrom_8 : decode cX2_copyFrom 8 = .ok (.invokevirtual 32, 3) := by decide +kernel
theorem dX2_copyFrom_11 : decode cX2_copyFrom 11 = .ok (.aload_n 1, 1) := by decide +kernel
theorem dX2_copyFrom_12 : decode cX2_copyFrom 12 = .ok (.getfield 18, 3) := by decide +kernel
theorem dX2_copyFrom_15 : decode cX2_copyFrom 15 = .ok (.iconst 0, 1) := by decide +kernel
theorem dX2_copyFrom_16 : decode cX2_copyFrom 16 = .ok (.aload_n 0, 1) := by decide +kernel
theorem dX2_copyFrom_17 : decode cX2_copyFrom 17 = .ok (.getfield 18, 3) := by decide +kernel
theorem dX2_copyFrom_20 : decode cX2_copyFrom 20 = .ok (.iconst 0, 1) := by decide +kernel
theorem dX2_copyFrom_21 : decode cX2_copyFrom 21 = .ok (.bipush 6, 2) := by decide +kernel
theorem dX2_copyFrom_23 : decode cX2_copyFrom 23 = .ok (.invokestatic 36, 3) := by decide +kernel
theorem dX2_copyFrom_26 : decode cX2_copyFrom 26 = .ok (.aload_n 1, 1) := by decide +kernel
theorem dX2_copyFrom_27 : decode cX2_copyFrom 27 = .ok (.getfield 22, 3) := by decide +kernel
theorem dX2_copyFrom_30 : decode cX2_copyFrom 30 = .ok (.iconst 0, 1) := by decide +kernel
theorem dX2_copyFrom_31 : decode cX2_copyFrom 31 = .ok (.aload_n 0, 1) := by decide +kernel
theorem dX2_copyFrom_32 : decode cX2_copyFrom 32 = .ok (.getfield 22, 3) := by decide +kernel
theorem dX2_copyFrom_35 : decode cX2_copyFrom 35 = .ok (.iconst 0, 1) := by decide +kernel
theorem dX2_copyFrom_36 : decode cX2_copyFrom 36 = .ok (.bipush 6, 2) := by decide +kernel
theorem dX2_copyFrom_38 : decode cX2_copyFrom 38 = .ok (.invokestatic 36, 3) := by decide +kernel
theorem dX2_copyFrom_41 : decode cX2_copyFrom 41 = .ok (.aload_n 1, 1) := by decide +kernel
theorem dX2_copyFrom_42 : decode cX2_copyFrom 42 = .ok (.getfield 25, 3) := by decide +kernel
theorem dX2_copyFrom_45 : decode cX2_copyFrom 45 = .ok (.iconst 0, 1) := by decide +kernel
theorem dX2_copyFrom_46 : decode cX2_copyFrom 46 = .ok (.aload_n 0, 1) := by decide +kernel
theorem dX2_copyFrom_47 : decode cX2_copyFrom 47 = .ok (.getfield 25, 3) := by decide +kernel
theorem dX2_copyFrom_50 : decode cX2_copyFrom 50 = .ok (.iconst 0, 1) := by decide +kernel
theorem dX2_copyFrom_51 : decode cX2_copyFrom 51 = .ok (.bipush 6, 2) := by decide +kernel
theorem dX2_copyFrom_53 : decode cX2_copyFrom 53 = .ok (.invokestatic 36, 3) := by decide +kernel
theorem dX2_copyFrom_56 : decode cX2_copyFrom 56 = .ok (.aload_n 1, 1) := by decide +kernel
theorem dX2_copyFrom_57 : decode cX2_copyFrom 57 = .ok (.getfield 29, 3) := by decide +kernel
theorem dX2_copyFrom_60 : decode cX2_copyFrom 60 = .ok (.iconst 0, 1) := by decide +kernel
theorem dX2_copyFrom_61 : decode cX2_copyFrom 61 = .ok (.aload_n 0, 1) := by decide +kernel
theorem dX2_copyFrom_62 : decode cX2_copyFrom 62 = .ok (.getfield 29, 3) := by decide +kernel
theorem dX2_copyFrom_65 : decode cX2_copyFrom 65 = .ok (.iconst 0, 1) := by decide +kernel
theorem dX2_copyFrom_66 : decode cX2_copyFrom 66 = .ok (.sipush 240, 3) := by decide +kernel
theorem dX2_copyFrom_69 : decode cX2_copyFrom 69 = .ok (.invokestatic 36, 3) := by decide +kernel
theorem dX2_copyFrom_72 : decode cX2_copyFrom 72 = .ok (.return_, 1) := by decide +kernel
abbrev rmX2_copyFrom : Room := { frames := 2, cells := 0, slots := 0, locals := 81 }
noncomputable def fX2_copyFrom (σ : St) (x0 : Nat) (x1 : Nat) : Option (St) :=
(gR σ x0 2 0).bind fun v1 =>
(gR σ x1 2 0).bind fun v5 =>
(isO σ v1 8).bind fun _ =>
(fX8_copyFrom σ v1 v5).bind fun w8 =>
(gR w8 x1 2 1).bind fun v12 =>
(gR w8 x0 2 1).bind fun v17 =>
(acL w8 v12 0 v17 0 6).bind fun σ23 =>
(gR σ23 x1 2 2).bind fun v27 =>
(gR σ23 x0 2 2).bind fun v32 =>
(acL σ23 v27 0 v32 0 6).bind fun σ38 =>
(gR σ38 x1 2 3).bind fun v42 =>
(gR σ38 x0 2 3).bind fun v47 =>
(acI σ38 v42 0 v47 0 6).bind fun σ53 =>
(gR σ53 x1 2 4).bind fun v57 =>
(gR σ53 x0 2 4).bind fun v62 =>
(acI σ53 v57 0 v62 0 240).bind fun σ69 =>
some σ69
set_option maxHeartbeats 4000000 in
set_option maxRecDepth 100000 in
theorem cX2_copyFromc {l : Launch} {G : xG} {A : Nat → Prop} {σ : St} {x0 : Nat} {x1 : Nat} {c : St} (hf : fX2_copyFrom σ x0 x1 = some c) : Con l yX2_copyFrom (xws yX2_copyFrom cX2_copyFrom 2 none) rmX2_copyFrom [.ref (x0), .ref (x1)] G A σ none c := by
  refine x_start rfl (Nat.le_of_ble_eq_true rfl) (fun X _ _ _ C hE0 => ?_)
  have hE : ∀ r, c = r → xE1 X none r := fun r e => e ▸ hE0
  show V X (0, 0) σ 0 [(0, .ref (x0)), (1, .ref (x1))] []
  unfold fX2_copyFrom at hf
  refine x_aload_n C dX2_copyFrom_0 1 rfl 0 rfl rfl ?_
  obtain ⟨v1, hv1, hf⟩ := x_bind hf
  refine x_getR C dX2_copyFrom_1 4 rfl hv1 cl2 rfl w234 ?_
  refine x_aload_n C dX2_copyFrom_4 5 rfl 1 rfl rfl ?_
  obtain ⟨v5, hv5, hf⟩ := x_bind hf
  refine x_getR C dX2_copyFrom_5 8 rfl hv5 cl2 rfl w234 ?_
  obtain ⟨o8, ho8, hf⟩ := x_bind hf
  obtain ⟨w8, hw8, hf⟩ := x_bind hf
  refine x_callVv C dX2_copyFrom_8 11 rfl ho8 cl8.1 rfl (cX8_copyFromc hw8) kX8_copyFrom kvX8_copyFrom w626 ⟨rfl, rfl⟩ ⟨Nat.le_of_ble_eq_true rfl, Nat.le_of_ble_eq_true rfl⟩ ⟨Nat.zero_le _, Nat.zero_le _⟩ rfl rfl (Nat.le_of_ble_eq_true rfl) ?_
  refine x_aload_n C dX2_copyFrom_11 12 rfl 1 rfl rfl ?_
  obtain ⟨v12, hv12, hf⟩ := x_bind hf
  refine x_getR C dX2_copyFrom_12 15 rfl hv12 cl2 rfl w237 ?_
  refine x_iconst C dX2_copyFrom_15 16 rfl 0 (by decide) ?_
  refine x_aload_n C dX2_copyFrom_16 17 rfl 0 rfl rfl ?_
  obtain ⟨v17, hv17, hf⟩ := x_bind hf
  refine x_getR C dX2_copyFrom_17 20 rfl hv17 cl2 rfl w237 ?_
  refine x_iconst C dX2_copyFrom_20 21 rfl 0 (by decide) ?_
  refine x_bipush C dX2_copyFrom_21 23 rfl 6 (by decide) ?_
  obtain ⟨σ23, hσ23, hf⟩ := x_bind hf
  refine x_copyL C dX2_copyFrom_23 26 rfl w633 acw ⟨Nat.le_of_ble_eq_true rfl, Nat.le_of_ble_eq_true rfl⟩ hσ23 ?_
  refine x_aload_n C dX2_copyFrom_26 27 rfl 1 rfl rfl ?_
  obtain ⟨v27, hv27, hf⟩ := x_bind hf
  refine x_getR C dX2_copyFrom_27 30 rfl hv27 cl2 rfl w240 ?_
  refine x_iconst C dX2_copyFrom_30 31 rfl 0 (by decide) ?_
  refine x_aload_n C dX2_copyFrom_31 32 rfl 0 rfl rfl ?_
  obtain ⟨v32, hv32, hf⟩ := x_bind hf
  refine x_getR C dX2_copyFrom_32 35 rfl hv32 cl2 rfl w240 ?_
  refine x_iconst C dX2_copyFrom_35 36 rfl 0 (by decide) ?_
  refine x_bipush C dX2_copyFrom_36 38 rfl 6 (by decide) ?_
  obtain ⟨σ38, hσ38, hf⟩ := x_bind hf
  refine x_copyL C dX2_copyFrom_38 41 rfl w633 acw ⟨Nat.le_of_ble_eq_true rfl, Nat.le_of_ble_eq_true rfl⟩ hσ38 ?_
  refine x_aload_n C dX2_copyFrom_41 42 rfl 1 rfl rfl ?_
  obtain ⟨v42, hv42, hf⟩ := x_bind hf
  refine x_getR C dX2_copyFrom_42 45 rfl hv42 cl2 rfl w242 ?_
  refine x_iconst C dX2_copyFrom_45 46 rfl 0 (by decide) ?_
  refine x_aload_n C dX2_copyFrom_46 47 rfl 0 rfl rfl ?_
  obtain ⟨v47, hv47, hf⟩ := x_bind hf
  refine x_getR C dX2_copyFrom_47 50 rfl hv47 cl2 rfl w242 ?_
  refine x_iconst C dX2_copyFrom_50 51 rfl 0 (by decide) ?_
  refine x_bipush C dX2_copyFrom_51 53 rfl 6 (by decide) ?_
  obtain ⟨σ53, hσ53, hf⟩ := x_bind hf
  refine x_copyI C dX2_copyFrom_53 56 rfl w633 acw ⟨Nat.le_of_ble_eq_true rfl, Nat.le_of_ble_eq_true rfl⟩ hσ53 ?_
  refine x_aload_n C dX2_copyFrom_56 57 rfl 1 rfl rfl ?_
  obtain ⟨v57, hv57, hf⟩ := x_bind hf
  refine x_getR C dX2_copyFrom_57 60 rfl hv57 cl2 rfl w245 ?_
  refine x_iconst C dX2_copyFrom_60 61 rfl 0 (by decide) ?_
  refine x_aload_n C dX2_copyFrom_61 62 rfl 0 rfl rfl ?_
  obtain ⟨v62, hv62, hf⟩ := x_bind hf
  refine x_getR C dX2_copyFrom_62 65 rfl hv62 cl2 rfl w245 ?_
  refine x_iconst C dX2_copyFrom_65 66 rfl 0 (by decide) ?_
  refine x_sipush C dX2_copyFrom_66 69 rfl 240 (by decide) ?_
  obtain ⟨σ69, hσ69, hf⟩ := x_bind hf
  refine x_copyI C dX2_copyFrom_69 72 rfl w633 acw ⟨Nat.le_of_ble_eq_true rfl, Nat.le_of_ble_eq_true rfl⟩ hσ69 ?_
  exact x_vret C (hE _ (Option.some.inj hf).symm) dX2_copyFrom_72
theorem dX0_giveBack_0 : decode cX0_giveBack 0 = .ok (.aload_n 0, 1) := by decide +kernel
theorem dX0_giveBack_1 : decode cX0_giveBack 1 = .ok (.getfield 21, 3) := by decide +kernel
theorem dX0_giveBack_4 : decode cX0_giveBack 4 = .ok (.ifCond .ne 4, 3) := by decide +kernel
theorem dX0_giveBack_7 : decode cX0_giveBack 7 = .ok (.return_, 1) := by decide +kernel
theorem dX0_giveBack_8 : decode cX0_giveBack 8 = .ok (.aload_n 0, 1) := by decide +kernel
theorem dX0_giveBack_9 : decode cX0_giveBack 9 = .ok (.aload_n 0, 1) := by decide +kernel
theorem dX0_giveBack_10 : decode cX0_giveBack 10 = .ok (.getfield 17, 3) := by decide +kernel
theorem dX0_giveBack_13 : decode cX0_giveBack 13 = .ok (.ifCond .le 12, 3) := by decide +kernel
theorem dX0_giveBack_16 : decode cX0_giveBack 16 = .ok (.aload_n 0, 1) := by decide +kernel
theorem dX0_giveBack_17 : decode cX0_giveBack 17 = .ok (.getfield 17, 3) := by decide +kernel
theorem dX0_giveBack_20 : decode cX0_giveBack 20 = .ok (.iconst 1, 1) := by decide +kernel
theorem dX0_giveBack_21 : decode cX0_giveBack 21 = .ok (.isub, 1) := by decide +kernel
theorem dX0_giveBack_22 : decode cX0_giveBack 22 = .ok (.goto 5, 3) := by decide +kernel
theorem dX0_giveBack_25 : decode cX0_giveBack 25 = .ok (.bipush 19, 2) := by decide +kernel
theorem dX0_giveBack_27 : decode cX0_giveBack 27 = .ok (.putfield 17, 3) := by decide +kernel
theorem dX0_giveBack_30 : decode cX0_giveBack 30 = .ok (.aload_n 0, 1) := by decide +kernel
theorem dX0_giveBack_31 : decode cX0_giveBack 31 = .ok (.dup, 1) := by decide +kernel
theorem dX0_giveBack_32 : decode cX0_giveBack 32 = .ok (.getfield 21, 3) := by decide +kernel
theorem dX0_giveBack_35 : decode cX0_giveBack 35 = .ok (.iconst 1, 1) := by decide +kernel
theorem dX0_giveBack_36 : decode cX0_giveBack 36 = .ok (.isub, 1) := by decide +kernel
theorem dX0_giveBack_37 : decode cX0_giveBack 37 = .ok (.putfield 21, 3) := by decide +kernel
theorem dX0_giveBack_40 : decode cX0_giveBack 40 = .ok (.aload_n 1, 1) := by decide +kernel
theorem dX0_giveBack_41 : decode cX0_giveBack 41 = .ok (.aload_n 0, 1) := by decide +kernel
theorem dX0_giveBack_42 : decode cX0_giveBack 42 = .ok (.getfield 11, 3) := by decide +kernel
theorem dX0_giveBack_45 : decode cX0_giveBack 45 = .ok (.aload_n 0, 1) := by decide +kernel
theorem dX0_giveBack_46 : decode cX0_giveBack 46 = .ok (.getfield 17, 3) := by decide +kernel
theorem dX0_giveBack_49 : decode cX0_giveBack 49 = .ok (.aaload, 1) := by decide +kernel
theorem dX0_giveBack_50 : decode cX0_giveBack 50 = .ok (.invokevirtual 25, 3) := by decide +kernel
theorem dX0_giveBack_53 : decode cX0_giveBack 53 = .ok (.return_, 1) := by decide +kernel
abbrev rmX0_giveBack : Room := { frames := 3, cells := 0, slots := 0, locals := 102 }
noncomputable def fJX0_giveBack_m_27 (σ : St) (x0 : Nat) (x1 : Nat) (t0 : Int32) (t1 : Nat) : Option (St) :=
(wrF σ t1 0 1 (.int (t0))).bind fun σ27 =>
(gI σ27 x0 0 2).bind fun v32 =>
(wrF σ27 x0 0 2 (.int (v32 - 1))).bind fun σ37 =>
(gR σ37 x0 0 0).bind fun v42 =>
(gI σ37 x0 0 1).bind fun v46 =>
(aR σ37 v42 v46).bind fun v49 =>
(isO σ37 x1 2).bind fun _ =>
(fX2_copyFrom σ37 x1 v49).bind fun w50 =>
some w50
set_option maxHeartbeats 4000000 in
set_option maxRecDepth 100000 in
theorem jnX0_giveBack_m_27 {X : xX} {σ : St} {x0 : Nat} {x1 : Nat} {t0 : Int32} {t1 : Nat}  {c : St} (C : Ok X cX0_giveBack 2 RX0 rmX0_giveBack none) (hf : fJX0_giveBack_m_27 σ x0 x1 t0 t1 = some c) (hE : ∀ r, c = r → xE1 X none r) : V X (0, 0) σ 27 [(0, .ref (x0)), (1, .ref (x1))] [.int (t0), .ref (t1)] := by
  unfold fJX0_giveBack_m_27 at hf
  obtain ⟨σ27, hσ27, hf⟩ := x_bind hf
  refine x_putX C dX0_giveBack_27 30 rfl hσ27 cl0 rfl w267 rfl rfl rfl ?_
  refine x_aload_n C dX0_giveBack_30 31 rfl 0 rfl rfl ?_
  refine x_dup C dX0_giveBack_31 32 rfl rfl ?_
  obtain ⟨v32, hv32, hf⟩ := x_bind hf
  refine x_getI C dX0_giveBack_32 35 rfl hv32 cl0 rfl w268 ?_
  refine x_iconst C dX0_giveBack_35 36 rfl 1 (by decide) ?_
  refine x_isub C dX0_giveBack_36 37 rfl ?_
  obtain ⟨σ37, hσ37, hf⟩ := x_bind hf
  refine x_putX C dX0_giveBack_37 40 rfl hσ37 cl0 rfl w268 rfl rfl rfl ?_
  refine x_aload_n C dX0_giveBack_40 41 rfl 1 rfl rfl ?_
  refine x_aload_n C dX0_giveBack_41 42 rfl 0 rfl rfl ?_
  obtain ⟨v42, hv42, hf⟩ := x_bind hf
  refine x_getR C dX0_giveBack_42 45 rfl hv42 cl0 rfl w266 ?_
  refine x_aload_n C dX0_giveBack_45 46 rfl 0 rfl rfl ?_
  obtain ⟨v46, hv46, hf⟩ := x_bind hf
  refine x_getI C dX0_giveBack_46 49 rfl hv46 cl0 rfl w267 ?_
  obtain ⟨v49, hv49, hf⟩ := x_bind hf
  refine x_aaload C dX0_giveBack_49 50 rfl hv49 ?_
  obtain ⟨o50, ho50, hf⟩ := x_bind hf
  obtain ⟨w50, hw50, hf⟩ := x_bind hf
  refine x_callVv C dX0_giveBack_50 53 rfl ho50 cl2.1 rfl (cX2_copyFromc hw50) kX2_copyFrom kvX2_copyFrom w622 ⟨rfl, rfl⟩ ⟨Nat.le_of_ble_eq_true rfl, Nat.le_of_ble_eq_true rfl⟩ ⟨Nat.zero_le _, Nat.zero_le _⟩ rfl rfl (Nat.le_of_ble_eq_true rfl) ?_
  exact x_vret C (hE _ (Option.some.inj hf).symm) dX0_giveBack_53
noncomputable def fX0_giveBack (σ : St) (x0 : Nat) (x1 : Nat) : Option (St) :=
(gI σ x0 0 2).bind fun v1 =>
if v1 = 0 then
(some σ)
else
((gI σ x0 0 1).bind fun v10 =>
if v10 ≤ 0 then
(fJX0_giveBack_m_27 σ x0 x1 19 x0)
else
((gI σ x0 0 1).bind fun v17 =>
fJX0_giveBack_m_27 σ x0 x1 (v17 - 1) x0))
set_option maxHeartbeats 4000000 in
set_option maxRecDepth 100000 in
theorem cX0_giveBackc {l : Launch} {G : xG} {A : Nat → Prop} {σ : St} {x0 : Nat} {x1 : Nat} {c : St} (hf : fX0_giveBack σ x0 x1 = some c) : Con l yX0_giveBack (xws yX0_giveBack cX0_giveBack 2 none) rmX0_giveBack [.ref (x0), .ref (x1)] G A σ none c := by
  refine x_start rfl (Nat.le_of_ble_eq_true rfl) (fun X _ _ _ C hE0 => ?_)
  have hE : ∀ r, c = r → xE1 X none r := fun r e => e ▸ hE0
  show V X (0, 0) σ 0 [(0, .ref (x0)), (1, .ref (x1))] []
  unfold fX0_giveBack at hf
  refine x_aload_n C dX0_giveBack_0 1 rfl 0 rfl rfl ?_
  obtain ⟨v1, hv1, hf⟩ := x_bind hf
  refine x_getI C dX0_giveBack_1 4 rfl hv1 cl0 rfl w268 ?_
  refine x_if_ne C dX0_giveBack_4 8 (by decide) 7 rfl (fun hc => ?_) (fun hc => ?_)
  · have hf := (if_neg hc).symm.trans hf
    refine x_aload_n C dX0_giveBack_8 9 rfl 0 rfl rfl ?_
    refine x_aload_n C dX0_giveBack_9 10 rfl 0 rfl rfl ?_
    obtain ⟨v10, hv10, hf⟩ := x_bind hf
    refine x_getI C dX0_giveBack_10 13 rfl hv10 cl0 rfl w267 ?_
    refine x_if_le C dX0_giveBack_13 25 (by decide) 16 rfl (fun hc => ?_) (fun hc => ?_)
    · have hf := (if_pos hc).symm.trans hf
      refine x_bipush C dX0_giveBack_25 27 rfl 19 (by decide) ?_
      exact jnX0_giveBack_m_27 C hf hE
    · have hf := (if_neg hc).symm.trans hf
      refine x_aload_n C dX0_giveBack_16 17 rfl 0 rfl rfl ?_
      obtain ⟨v17, hv17, hf⟩ := x_bind hf
      refine x_getI C dX0_giveBack_17 20 rfl hv17 cl0 rfl w267 ?_
      refine x_iconst C dX0_giveBack_20 21 rfl 1 (by decide) ?_
      refine x_isub C dX0_giveBack_21 22 rfl ?_
      refine x_goto C dX0_giveBack_22 27 (by decide) ?_
      exact jnX0_giveBack_m_27 C hf hE
  · have hf := (if_pos hc).symm.trans hf
    exact x_vret C (hE _ (Option.some.inj hf).symm) dX0_giveBack_7
theorem dX0_keep_0 : decode cX0_keep 0 = .ok (.aload_n 0, 1) := by decide +kernel
theorem dX0_keep_1 : decode cX0_keep 1 = .ok (.getfield 11, 3) := by decide +kernel
theorem dX0_keep_4 : decode cX0_keep 4 = .ok (.aload_n 0, 1) := by decide +kernel
theorem dX0_keep_5 : decode cX0_keep 5 = .ok (.getfield 17, 3) := by decide +kernel
theorem dX0_keep_8 : decode cX0_keep 8 = .ok (.aaload, 1) := by decide +kernel
theorem dX0_keep_9 : decode cX0_keep 9 = .ok (.aload_n 1, 1) := by decide +kernel
theorem dX0_keep_10 : decode cX0_keep 10 = .ok (.invokevirtual 25, 3) := by decide +kernel
theorem dX0_keep_13 : decode cX0_keep 13 = .ok (.aload_n 0, 1) := by decide +kernel
theorem dX0_keep_14 : decode cX0_keep 14 = .ok (.aload_n 0, 1) := by decide +kernel
theorem dX0_keep_15 : decode cX0_keep 15 = .ok (.getfield 17, 3) := by decide +kernel
theorem dX0_keep_18 : decode cX0_keep 18 = .ok (.iconst 1, 1) := by decide +kernel
theorem dX0_keep_19 : decode cX0_keep 19 = .ok (.iadd, 1) := by decide +kernel
theorem dX0_keep_20 : decode cX0_keep 20 = .ok (.bipush 20, 2) := by decide +kernel
theorem dX0_keep_22 : decode cX0_keep 22 = .ok (.if_icmp .ge 12, 3) := by decide +kernel
theorem dX0_keep_25 : decode cX0_keep 25 = .ok (.aload_n 0, 1) := by decide +kernel
theorem dX0_keep_26 : decode cX0_keep 26 = .ok (.getfield 17, 3) := by decide +kernel
theorem dX0_keep_29 : decode cX0_keep 29 = .ok (.iconst 1, 1) := by decide +kernel
theorem dX0_keep_30 : decode cX0_keep 30 = .ok (.iadd, 1) := by decide +kernel
theorem dX0_keep_31 : decode cX0_keep 31 = .ok (.goto 4, 3) := by decide +kernel
theorem dX0_keep_34 : decode cX0_keep 34 = .ok (.iconst 0, 1) := by decide +kernel
theorem dX0_keep_35 : decode cX0_keep 35 = .ok (.putfield 17, 3) := by decide +kernel
theorem dX0_keep_38 : decode cX0_keep 38 = .ok (.aload_n 0, 1) := by decide +kernel
theorem dX0_keep_39 : decode cX0_keep 39 = .ok (.aload_n 0, 1) := by decide +kernel
theorem dX0_keep_40 : decode cX0_keep 40 = .ok (.getfield 21, 3) := by decide +kernel
theorem dX0_keep_43 : decode cX0_keep 43 = .ok (.iconst 1, 1) := by decide +kernel
theorem dX0_keep_44 : decode cX0_keep 44 = .ok (.iadd, 1) := by decide +kernel
theorem dX0_keep_45 : decode cX0_keep 45 = .ok (.bipush 20, 2) := by decide +kernel
theorem dX0_keep_47 : decode cX0_keep 47 = .ok (.invokestatic 29, 3) := by decide +kernel
theorem dX0_keep_50 : decode cX0_keep 50 = .ok (.putfield 21, 3) := by decide +kernel
theorem dX0_keep_53 : decode cX0_keep 53 = .ok (.return_, 1) := by decide +kernel
abbrev rmX0_keep : Room := { frames := 3, cells := 0, slots := 0, locals := 102 }
noncomputable def fJX0_keep_m_35 (σ : St) (x0 : Nat) (t0 : Int32) (t1 : Nat) : Option (St) :=
(wrF σ t1 0 1 (.int (t0))).bind fun σ35 =>
(gI σ35 x0 0 2).bind fun v40 =>
(wrF σ35 x0 0 2 (.int (imin (v40 + 1) 20))).bind fun σ50 =>
some σ50
set_option maxHeartbeats 4000000 in
set_option maxRecDepth 100000 in
theorem jnX0_keep_m_35 {X : xX} {σ : St} {x0 : Nat} {t0 : Int32} {t1 : Nat}  {c : St} (C : Ok X cX0_keep 2 RX0 rmX0_keep none) (hf : fJX0_keep_m_35 σ x0 t0 t1 = some c) (hE : ∀ r, c = r → xE1 X none r) : V X (0, 0) σ 35 [(0, .ref (x0))] [.int (t0), .ref (t1)] := by
  unfold fJX0_keep_m_35 at hf
  obtain ⟨σ35, hσ35, hf⟩ := x_bind hf
  refine x_putX C dX0_keep_35 38 rfl hσ35 cl0 rfl w267 rfl rfl rfl ?_
  refine x_aload_n C dX0_keep_38 39 rfl 0 rfl rfl ?_
  refine x_aload_n C dX0_keep_39 40 rfl 0 rfl rfl ?_
  obtain ⟨v40, hv40, hf⟩ := x_bind hf
  refine x_getI C dX0_keep_40 43 rfl hv40 cl0 rfl w268 ?_
  refine x_iconst C dX0_keep_43 44 rfl 1 (by decide) ?_
  refine x_iadd C dX0_keep_44 45 rfl ?_
  refine x_bipush C dX0_keep_45 47 rfl 20 (by decide) ?_
  refine x_mmin C dX0_keep_47 50 rfl w634 mminw ⟨Nat.le_of_ble_eq_true rfl, Nat.le_of_ble_eq_true rfl⟩ ⟨Nat.zero_le _, Nat.zero_le _⟩ ?_
  obtain ⟨σ50, hσ50, hf⟩ := x_bind hf
  refine x_putX C dX0_keep_50 53 rfl hσ50 cl0 rfl w268 rfl rfl rfl ?_
  exact x_vret C (hE _ (Option.some.inj hf).symm) dX0_keep_53
noncomputable def fX0_keep (σ : St) (x0 : Nat) (x1 : Nat) : Option (St) :=
(gR σ x0 0 0).bind fun v1 =>
(gI σ x0 0 1).bind fun v5 =>
(aR σ v1 v5).bind fun v8 =>
(isO σ v8 2).bind fun _ =>
(fX2_copyFrom σ v8 x1).bind fun w10 =>
(gI w10 x0 0 1).bind fun v15 =>
if ((20 : Int32)) ≤ (v15 + 1) then
(fJX0_keep_m_35 w10 x0 0 x0)
else
((gI w10 x0 0 1).bind fun v26 =>
fJX0_keep_m_35 w10 x0 (v26 + 1) x0)
set_option maxHeartbeats 4000000 in
set_option maxRecDepth 100000 in
theorem cX0_keepc {l : Launch} {G : xG} {A : Nat → Prop} {σ : St} {x0 : Nat} {x1 : Nat} {c : St} (hf : fX0_keep σ x0 x1 = some c) : Con l yX0_keep (xws yX0_keep cX0_keep 2 none) rmX0_keep [.ref (x0), .ref (x1)] G A σ none c := by
  refine x_start rfl (Nat.le_of_ble_eq_true rfl) (fun X _ _ _ C hE0 => ?_)
  have hE : ∀ r, c = r → xE1 X none r := fun r e => e ▸ hE0
  show V X (0, 0) σ 0 [(0, .ref (x0)), (1, .ref (x1))] []
  unfold fX0_keep at hf
  refine x_aload_n C dX0_keep_0 1 rfl 0 rfl rfl ?_
  obtain ⟨v1, hv1, hf⟩ := x_bind hf
  refine x_getR C dX0_keep_1 4 rfl hv1 cl0 rfl w266 ?_
  refine x_aload_n C dX0_keep_4 5 rfl 0 rfl rfl ?_
  obtain ⟨v5, hv5, hf⟩ := x_bind hf
  refine x_getI C dX0_keep_5 8 rfl hv5 cl0 rfl w267 ?_
  obtain ⟨v8, hv8, hf⟩ := x_bind hf
  refine x_aaload C dX0_keep_8 9 rfl hv8 ?_
  refine x_aload_n C dX0_keep_9 10 rfl 1 rfl rfl ?_
  obtain ⟨o10, ho10, hf⟩ := x_bind hf
  obtain ⟨w10, hw10, hf⟩ := x_bind hf
  refine x_callVv C dX0_keep_10 13 rfl ho10 cl2.1 rfl (cX2_copyFromc hw10) kX2_copyFrom kvX2_copyFrom w622 ⟨rfl, rfl⟩ ⟨Nat.le_of_ble_eq_true rfl, Nat.le_of_ble_eq_true rfl⟩ ⟨Nat.zero_le _, Nat.zero_le _⟩ rfl rfl (Nat.le_of_ble_eq_true rfl) ?_
  refine x_aload_n C dX0_keep_13 14 rfl 0 rfl rfl ?_
  refine x_aload_n C dX0_keep_14 15 rfl 0 rfl rfl ?_
  obtain ⟨v15, hv15, hf⟩ := x_bind hf
  refine x_getI C dX0_keep_15 18 rfl hv15 cl0 rfl w267 ?_
  refine x_iconst C dX0_keep_18 19 rfl 1 (by decide) ?_
  refine x_iadd C dX0_keep_19 20 rfl ?_
  refine x_bipush C dX0_keep_20 22 rfl 20 (by decide) ?_
  refine x_icmp_ge C dX0_keep_22 34 (by decide) 25 rfl (fun hc => ?_) (fun hc => ?_)
  · have hf := (if_pos hc).symm.trans hf
    refine x_iconst C dX0_keep_34 35 rfl 0 (by decide) ?_
    refine x_lv [0] (lv' := [(0, .ref (x0))]) rfl ?_
    exact jnX0_keep_m_35 C hf hE
  · have hf := (if_neg hc).symm.trans hf
    refine x_aload_n C dX0_keep_25 26 rfl 0 rfl rfl ?_
    obtain ⟨v26, hv26, hf⟩ := x_bind hf
    refine x_getI C dX0_keep_26 29 rfl hv26 cl0 rfl w267 ?_
    refine x_iconst C dX0_keep_29 30 rfl 1 (by decide) ?_
    refine x_iadd C dX0_keep_30 31 rfl ?_
    refine x_goto C dX0_keep_31 35 (by decide) ?_
    refine x_lv [0] (lv' := [(0, .ref (x0))]) rfl ?_
    exact jnX0_keep_m_35 C hf hE
theorem dX10_length_0 : decode cX10_length 0 = .ok (.lload_n 0, 1) := by decide +kernel
theorem dX10_length_1 : decode cX10_length 1 = .ok (.bipush 48, 2) := by decide +kernel
theorem dX10_length_3 : decode cX10_length 3 = .ok (.lushr, 1) := by decide +kernel
theorem dX10_length_4 : decode cX10_length 4 = .ok (.l2i, 1) := by decide +kernel
theorem dX10_length_5 : decode cX10_length 5 = .ok (.ireturn, 1) := by decide +kernel
abbrev rmX10_length : Room := { frames := 0, cells := 0, slots := 0, locals := 0 }
noncomputable def fX10_length (x0 : Int64) : Option (Int32) :=
some (((x0.toUInt64 >>> ((48 : Int32).toInt64.toUInt64 &&& Int64.toUInt64 63)).toInt64).toInt32)
set_option maxHeartbeats 4000000 in
set_option maxRecDepth 100000 in
theorem cX10_lengthc {l : Launch} {G : xG} {A : Nat → Prop} {σ : St} {x0 : Int64} {c : Int32} (hf : fX10_length x0 = some c) : Con l yX10_length (xws yX10_length cX10_length 2 (some .int)) rmX10_length [.long (x0)] G A σ (some (.int c)) σ := by
  refine x_start rfl (Nat.le_of_ble_eq_true rfl) (fun X _ _ _ C hE0 => ?_)
  have hE : ∀ r, c = r → xE1 X (some (.int r)) σ := fun r e => e ▸ hE0
  show V X (0, 0) σ 0 [(0, .long (x0))] []
  unfold fX10_length at hf
  refine x_lload_n C dX10_length_0 1 rfl 0 rfl rfl ?_
  refine x_bipush C dX10_length_1 3 rfl 48 (by decide) ?_
  refine x_lushr C dX10_length_3 4 rfl ?_
  refine x_l2i C dX10_length_4 5 rfl ?_
  exact x_iret C (hE _ (Option.some.inj hf).symm) dX10_length_5
theorem dX10_letterOf_0 : decode cX10_letterOf 0 = .ok (.iload_n 2, 1) := by decide +kernel
theorem dX10_letterOf_1 : decode cX10_letterOf 1 = .ok (.lload_n 0, 1) := by decide +kernel
theorem dX10_letterOf_2 : decode cX10_letterOf 2 = .ok (.bipush 48, 2) := by decide +kernel
theorem dX10_letterOf_4 : decode cX10_letterOf 4 = .ok (.lushr, 1) := by decide +kernel
theorem dX10_letterOf_5 : decode cX10_letterOf 5 = .ok (.l2i, 1) := by decide +kernel
theorem dX10_letterOf_6 : decode cX10_letterOf 6 = .ok (.if_icmp .lt 7, 3) := by decide +kernel
theorem dX10_letterOf_9 : decode cX10_letterOf 9 = .ok (.iconst (-1), 1) := by decide +kernel
theorem dX10_letterOf_10 : decode cX10_letterOf 10 = .ok (.goto 15, 3) := by decide +kernel
theorem dX10_letterOf_13 : decode cX10_letterOf 13 = .ok (.lload_n 0, 1) := by decide +kernel
theorem dX10_letterOf_14 : decode cX10_letterOf 14 = .ok (.iconst 3, 1) := by decide +kernel
theorem dX10_letterOf_15 : decode cX10_letterOf 15 = .ok (.iload_n 2, 1) := by decide +kernel
theorem dX10_letterOf_16 : decode cX10_letterOf 16 = .ok (.imul, 1) := by decide +kernel
theorem dX10_letterOf_17 : decode cX10_letterOf 17 = .ok (.lushr, 1) := by decide +kernel
theorem dX10_letterOf_18 : decode cX10_letterOf 18 = .ok (.ldc2_w 11, 3) := by decide +kernel
theorem dX10_letterOf_21 : decode cX10_letterOf 21 = .ok (.land, 1) := by decide +kernel
theorem dX10_letterOf_22 : decode cX10_letterOf 22 = .ok (.l2i, 1) := by decide +kernel
theorem dX10_letterOf_23 : decode cX10_letterOf 23 = .ok (.iconst 1, 1) := by decide +kernel
theorem dX10_letterOf_24 : decode cX10_letterOf 24 = .ok (.isub, 1) := by decide +kernel
theorem dX10_letterOf_25 : decode cX10_letterOf 25 = .ok (.ireturn, 1) := by decide +kernel
abbrev rmX10_letterOf : Room := { frames := 0, cells := 0, slots := 0, locals := 0 }
noncomputable def fX10_letterOf (x0 : Int64) (x2 : Int32) : Option (Int32) :=
if x2 < (((x0.toUInt64 >>> ((48 : Int32).toInt64.toUInt64 &&& Int64.toUInt64 63)).toInt64).toInt32) then
(some (((((x0.toUInt64 >>> ((3 * x2).toInt64.toUInt64 &&& Int64.toUInt64 63)).toInt64) &&& 7).toInt32) - 1))
else
(some (-1))
set_option maxHeartbeats 4000000 in
set_option maxRecDepth 100000 in
theorem cX10_letterOfc {l : Launch} {G : xG} {A : Nat → Prop} {σ : St} {x0 : Int64} {x2 : Int32} {c : Int32} (hf : fX10_letterOf x0 x2 = some c) : Con l yX10_letterOf (xws yX10_letterOf cX10_letterOf 3 (some .int)) rmX10_letterOf [.long (x0), .int (x2)] G A σ (some (.int c)) σ := by
  refine x_start rfl (Nat.le_of_ble_eq_true rfl) (fun X _ _ _ C hE0 => ?_)
  have hE : ∀ r, c = r → xE1 X (some (.int r)) σ := fun r e => e ▸ hE0
  show V X (0, 0) σ 0 [(0, .long (x0)), (2, .int (x2))] []
  unfold fX10_letterOf at hf
  refine x_iload_n C dX10_letterOf_0 1 rfl 1 rfl rfl ?_
  refine x_lload_n C dX10_letterOf_1 2 rfl 0 rfl rfl ?_
  refine x_bipush C dX10_letterOf_2 4 rfl 48 (by decide) ?_
  refine x_lushr C dX10_letterOf_4 5 rfl ?_
  refine x_l2i C dX10_letterOf_5 6 rfl ?_
  refine x_icmp_lt C dX10_letterOf_6 13 (by decide) 9 rfl (fun hc => ?_) (fun hc => ?_)
  · have hf := (if_pos hc).symm.trans hf
    refine x_lload_n C dX10_letterOf_13 14 rfl 0 rfl rfl ?_
    refine x_iconst C dX10_letterOf_14 15 rfl 3 (by decide) ?_
    refine x_iload_n C dX10_letterOf_15 16 rfl 1 rfl rfl ?_
    refine x_imul C dX10_letterOf_16 17 rfl ?_
    refine x_lushr C dX10_letterOf_17 18 rfl ?_
    refine x_ldc2 C dX10_letterOf_18 21 rfl w617 ?_
    refine x_land C dX10_letterOf_21 22 rfl ?_
    refine x_l2i C dX10_letterOf_22 23 rfl ?_
    refine x_iconst C dX10_letterOf_23 24 rfl 1 (by decide) ?_
    refine x_isub C dX10_letterOf_24 25 rfl ?_
    exact x_iret C (hE _ (Option.some.inj hf).symm) dX10_letterOf_25
  · have hf := (if_neg hc).symm.trans hf
    refine x_iconst C dX10_letterOf_9 10 rfl (-1) (by decide) ?_
    refine x_goto C dX10_letterOf_10 25 (by decide) ?_
    exact x_iret C (hE _ (Option.some.inj hf).symm) dX10_letterOf_25
theorem dX10_longer_0 : decode cX10_longer 0 = .ok (.lload_n 0, 1) := by decide +kernel
theorem dX10_longer_1 : decode cX10_longer 1 = .ok (.bipush 48, 2) := by decide +kernel
theorem dX10_longer_3 : decode cX10_longer 3 = .ok (.lushr, 1) := by decide +kernel
theorem dX10_longer_4 : decode cX10_longer 4 = .ok (.l2i, 1) := by decide +kernel
theorem dX10_longer_5 : decode cX10_longer 5 = .ok (.istore_n 3, 1) := by decide +kernel
theorem dX10_longer_6 : decode cX10_longer 6 = .ok (.iload_n 3, 1) := by decide +kernel
theorem dX10_longer_7 : decode cX10_longer 7 = .ok (.bipush 16, 2) := by decide +kernel
theorem dX10_longer_9 : decode cX10_longer 9 = .ok (.if_icmp .lt 5, 3) := by decide +kernel
theorem dX10_longer_12 : decode cX10_longer 12 = .ok (.lload_n 0, 1) := by decide +kernel
theorem dX10_longer_13 : decode cX10_longer 13 = .ok (.lreturn, 1) := by decide +kernel
theorem dX10_longer_14 : decode cX10_longer 14 = .ok (.lload_n 0, 1) := by decide +kernel
theorem dX10_longer_15 : decode cX10_longer 15 = .ok (.ldc2_w 13, 3) := by decide +kernel
theorem dX10_longer_18 : decode cX10_longer 18 = .ok (.ladd, 1) := by decide +kernel
theorem dX10_longer_19 : decode cX10_longer 19 = .ok (.iload_n 2, 1) := by decide +kernel
theorem dX10_longer_20 : decode cX10_longer 20 = .ok (.i2l, 1) := by decide +kernel
theorem dX10_longer_21 : decode cX10_longer 21 = .ok (.lconst 1, 1) := by decide +kernel
theorem dX10_longer_22 : decode cX10_longer 22 = .ok (.ladd, 1) := by decide +kernel
theorem dX10_longer_23 : decode cX10_longer 23 = .ok (.iconst 3, 1) := by decide +kernel
theorem dX10_longer_24 : decode cX10_longer 24 = .ok (.iload_n 3, 1) := by decide +kernel
theorem dX10_longer_25 : decode cX10_longer 25 = .ok (.imul, 1) := by decide +kernel
theorem dX10_longer_26 : decode cX10_longer 26 = .ok (.lshl, 1) := by decide +kernel
theorem dX10_longer_27 : decode cX10_longer 27 = .ok (.lor, 1) := by decide +kernel
theorem dX10_longer_28 : decode cX10_longer 28 = .ok (.lreturn, 1) := by decide +kernel
abbrev rmX10_longer : Room := { frames := 0, cells := 0, slots := 0, locals := 0 }
noncomputable def fX10_longer (x0 : Int64) (x2 : Int32) : Option (Int64) :=
xlet (((x0.toUInt64 >>> ((48 : Int32).toInt64.toUInt64 &&& Int64.toUInt64 63)).toInt64).toInt32) fun v5 =>
if v5 < ((16 : Int32)) then
(some ((x0 + 281474976710656) ||| ((x2.toInt64 + 1) <<< ((3 * v5).toInt64 &&& 63))))
else
(some x0)
set_option maxHeartbeats 4000000 in
set_option maxRecDepth 100000 in
theorem cX10_longerc {l : Launch} {G : xG} {A : Nat → Prop} {σ : St} {x0 : Int64} {x2 : Int32} {c : Int64} (hf : fX10_longer x0 x2 = some c) : Con l yX10_longer (xws yX10_longer cX10_longer 4 (some .long)) rmX10_longer [.long (x0), .int (x2)] G A σ (some (.long c)) σ := by
  refine x_start rfl (Nat.le_of_ble_eq_true rfl) (fun X _ _ _ C hE0 => ?_)
  have hE : ∀ r, c = r → xE1 X (some (.long r)) σ := fun r e => e ▸ hE0
  show V X (0, 0) σ 0 [(0, .long (x0)), (2, .int (x2))] []
  unfold fX10_longer at hf
  refine x_lload_n C dX10_longer_0 1 rfl 0 rfl rfl ?_
  refine x_bipush C dX10_longer_1 3 rfl 48 (by decide) ?_
  refine x_lushr C dX10_longer_3 4 rfl ?_
  refine x_l2i C dX10_longer_4 5 rfl ?_
  obtain ⟨v5, ev5, hf⟩ := xlet_some hf
  refine x_topi ev5 ?_
  refine x_istore_n C dX10_longer_5 6 rfl rfl rfl [(3, .int (v5)), (0, .long (x0)), (2, .int (x2))] rfl ?_
  refine x_iload_n C dX10_longer_6 7 rfl 0 rfl rfl ?_
  refine x_bipush C dX10_longer_7 9 rfl 16 (by decide) ?_
  refine x_icmp_lt C dX10_longer_9 14 (by decide) 12 rfl (fun hc => ?_) (fun hc => ?_)
  · have hf := (if_pos hc).symm.trans hf
    refine x_lload_n C dX10_longer_14 15 rfl 1 rfl rfl ?_
    refine x_ldc2 C dX10_longer_15 18 rfl w935 ?_
    refine x_ladd C dX10_longer_18 19 rfl ?_
    refine x_iload_n C dX10_longer_19 20 rfl 2 rfl rfl ?_
    refine x_i2l C dX10_longer_20 21 rfl ?_
    refine x_lconst C dX10_longer_21 22 rfl 1 (by decide) ?_
    refine x_ladd C dX10_longer_22 23 rfl ?_
    refine x_iconst C dX10_longer_23 24 rfl 3 (by decide) ?_
    refine x_iload_n C dX10_longer_24 25 rfl 0 rfl rfl ?_
    refine x_imul C dX10_longer_25 26 rfl ?_
    refine x_lshl C dX10_longer_26 27 rfl ?_
    refine x_lor C dX10_longer_27 28 rfl ?_
    exact x_lret C (hE _ (Option.some.inj hf).symm) dX10_longer_28
  · have hf := (if_neg hc).symm.trans hf
    refine x_lload_n C dX10_longer_12 13 rfl 1 rfl rfl ?_
    exact x_lret C (hE _ (Option.some.inj hf).symm) dX10_longer_13
theorem dX10_backwards_0 : decode cX10_backwards 0 = .ok (.lconst 0, 1) := by decide +kernel
theorem dX10_backwards_1 : decode cX10_backwards 1 = .ok (.lstore_n 2, 1) := by decide +kernel
theorem dX10_backwards_2 : decode cX10_backwards 2 = .ok (.lload_n 0, 1) := by decide +kernel
theorem dX10_backwards_3 : decode cX10_backwards 3 = .ok (.invokestatic 17, 3) := by decide +kernel
theorem dX10_backwards_6 : decode cX10_backwards 6 = .ok (.iconst 1, 1) := by decide +kernel
theorem dX10_backwards_7 : decode cX10_backwards 7 = .ok (.isub, 1) := by decide +kernel
theorem dX10_backwards_8 : decode cX10_backwards 8 = .ok (.istore 4, 2) := by decide +kernel
theorem dX10_backwards_10 : decode cX10_backwards 10 = .ok (.iload 4, 2) := by decide +kernel
theorem dX10_backwards_12 : decode cX10_backwards 12 = .ok (.ifCond .lt 20, 3) := by decide +kernel
theorem dX10_backwards_15 : decode cX10_backwards 15 = .ok (.lload_n 2, 1) := by decide +kernel
theorem dX10_backwards_16 : decode cX10_backwards 16 = .ok (.lload_n 0, 1) := by decide +kernel
theorem dX10_backwards_17 : decode cX10_backwards 17 = .ok (.iload 4, 2) := by decide +kernel
theorem dX10_backwards_19 : decode cX10_backwards 19 = .ok (.invokestatic 21, 3) := by decide +kernel
theorem dX10_backwards_22 : decode cX10_backwards 22 = .ok (.invokestatic 25, 3) := by decide +kernel
theorem dX10_backwards_25 : decode cX10_backwards 25 = .ok (.lstore_n 2, 1) := by decide +kernel
theorem dX10_backwards_26 : decode cX10_backwards 26 = .ok (.iinc 4 (-1), 3) := by decide +kernel
theorem dX10_backwards_29 : decode cX10_backwards 29 = .ok (.goto (-19), 3) := by decide +kernel
theorem dX10_backwards_32 : decode cX10_backwards 32 = .ok (.lload_n 2, 1) := by decide +kernel
theorem dX10_backwards_33 : decode cX10_backwards 33 = .ok (.lreturn, 1) := by decide +kernel
abbrev rmX10_backwards : Room := { frames := 1, cells := 0, slots := 0, locals := 23 }
noncomputable def fLX10_backwards_10 (x0 : Int64) (a : Int64 × Int32) : Option ((Int64 × Int32) ⊕ (Int64)) :=
if a.2 < 0 then
(some (Sum.inr a.1))
else
((fX10_letterOf x0 a.2).bind fun w19 =>
(fX10_longer a.1 w19).bind fun w22 =>
xlet (a.2 + (-1)) fun v26 =>
some (Sum.inl (w22, v26)))
set_option maxHeartbeats 4000000 in
set_option maxRecDepth 100000 in
theorem lpX10_backwards_10 {X : xX} {σ : St} {x0 : Int64}  {a0 : Int64 × Int32} {b : Int64} (C : Ok X cX10_backwards 5 RX10 rmX10_backwards (some .long)) (hb : iterP (fLX10_backwards_10 x0) a0 = some b) (hy0 : ∀ s, b = s → V X (0, 0) σ 32 [(2, .long (s))] []) : V X (0, 0) σ 10 [(0, .long (x0)), (2, .long (a0.1)), (4, .int (a0.2))] [] := by
  obtain ⟨n, hn⟩ := iterP_some hb
  refine x_loop (P := fun a => V X (0, 0) σ 10 [(0, .long (x0)), (2, .long (a.1)), (4, .int (a.2))] []) ?_ n a0 hn
  intro a c hf hK hxx
  have hx0 : ∀ s, c = Sum.inr s → V X (0, 0) σ 32 [(2, .long (s))] [] := fun s e => hy0 s (hxx _ e).symm
  unfold fLX10_backwards_10 at hf
  refine x_iload C dX10_backwards_10 12 rfl 2 rfl ?_
  refine x_if_lt C dX10_backwards_12 32 (by decide) 15 rfl (fun hc => ?_) (fun hc => ?_)
  · have hf := (if_pos hc).symm.trans hf
    refine x_lv [1] (lv' := [(2, .long (a.1))]) rfl ?_
    exact hx0 _ (Option.some.inj hf).symm
  · have hf := (if_neg hc).symm.trans hf
    refine x_lload_n C dX10_backwards_15 16 rfl 1 rfl rfl ?_
    refine x_lload_n C dX10_backwards_16 17 rfl 0 rfl rfl ?_
    refine x_iload C dX10_backwards_17 19 rfl 2 rfl ?_
    obtain ⟨w19, hw19, hf⟩ := x_bind hf
    refine x_callSi C dX10_backwards_19 22 rfl (cX10_letterOfc hw19) kX10_letterOf ksX10_letterOf w711 ⟨rfl, rfl⟩ ⟨Nat.le_of_ble_eq_true rfl, Nat.le_of_ble_eq_true rfl⟩ ⟨Nat.zero_le _, Nat.zero_le _⟩ rfl rfl (Nat.le_of_ble_eq_true rfl) ?_
    obtain ⟨w22, hw22, hf⟩ := x_bind hf
    refine x_callSl C dX10_backwards_22 25 rfl (cX10_longerc hw22) kX10_longer ksX10_longer w1350 ⟨rfl, rfl⟩ ⟨Nat.le_of_ble_eq_true rfl, Nat.le_of_ble_eq_true rfl⟩ ⟨Nat.zero_le _, Nat.zero_le _⟩ rfl rfl (Nat.le_of_ble_eq_true rfl) ?_
    refine x_lstore_n C dX10_backwards_25 26 rfl rfl rfl [(2, .long (w22)), (0, .long (x0)), (4, .int (a.2))] rfl ?_
    obtain ⟨v26, ev26, hf⟩ := xlet_some hf
    refine x_iinc C dX10_backwards_26 29 rfl 2 rfl v26 ev26 rfl [(4, .int (v26)), (2, .long (w22)), (0, .long (x0))] rfl ?_
    refine x_goto C dX10_backwards_29 10 (by decide) ?_
    refine x_lv [2, 1, 0] (lv' := [(0, .long (x0)), (2, .long (w22)), (4, .int (v26))]) rfl ?_
    exact hK _ (Option.some.inj hf).symm
noncomputable def fX10_backwards (x0 : Int64) : Option (Int64) :=
(fX10_length x0).bind fun w3 =>
xlet (w3 - 1) fun v8 =>
(iterP (fLX10_backwards_10 x0) (0, v8)).bind fun b10 =>
some b10
set_option maxHeartbeats 4000000 in
set_option maxRecDepth 100000 in
theorem cX10_backwardsc {l : Launch} {G : xG} {A : Nat → Prop} {σ : St} {x0 : Int64} {c : Int64} (hf : fX10_backwards x0 = some c) : Con l yX10_backwards (xws yX10_backwards cX10_backwards 5 (some .long)) rmX10_backwards [.long (x0)] G A σ (some (.long c)) σ := by
  refine x_start rfl (Nat.le_of_ble_eq_true rfl) (fun X _ _ _ C hE0 => ?_)
  have hE : ∀ r, c = r → xE1 X (some (.long r)) σ := fun r e => e ▸ hE0
  show V X (0, 0) σ 0 [(0, .long (x0))] []
  unfold fX10_backwards at hf
  refine x_lconst C dX10_backwards_0 1 rfl 0 (by decide) ?_
  refine x_lstore_n C dX10_backwards_1 2 rfl rfl rfl [(2, .long (0)), (0, .long (x0))] rfl ?_
  refine x_lload_n C dX10_backwards_2 3 rfl 1 rfl rfl ?_
  obtain ⟨w3, hw3, hf⟩ := x_bind hf
  refine x_callSi C dX10_backwards_3 6 rfl (cX10_lengthc hw3) kX10_length ksX10_length w646 ⟨rfl, rfl⟩ ⟨Nat.le_of_ble_eq_true rfl, Nat.le_of_ble_eq_true rfl⟩ ⟨Nat.zero_le _, Nat.zero_le _⟩ rfl rfl (Nat.le_of_ble_eq_true rfl) ?_
  refine x_iconst C dX10_backwards_6 7 rfl 1 (by decide) ?_
  refine x_isub C dX10_backwards_7 8 rfl ?_
  obtain ⟨v8, ev8, hf⟩ := xlet_some hf
  refine x_topi ev8 ?_
  refine x_istore C dX10_backwards_8 10 rfl rfl [(4, .int (v8)), (2, .long (0)), (0, .long (x0))] rfl ?_
  obtain ⟨b10, hb10, hf⟩ := x_bind hf
  refine x_lv [2, 1, 0] (lv' := [(0, .long (x0)), (2, .long (0)), (4, .int (v8))]) rfl ?_
  refine lpX10_backwards_10 C hb10 (fun s10 e10 => ?_)
  subst e10
  refine x_lload_n C dX10_backwards_32 33 rfl 0 rfl rfl ?_
  exact x_lret C (hE _ (Option.some.inj hf).symm) dX10_backwards_33
theorem dX10_countOf_0 : decode cX10_countOf 0 = .ok (.iconst 0, 1) := by decide +kernel
theorem dX10_countOf_1 : decode cX10_countOf 1 = .ok (.istore_n 3, 1) := by decide +kernel
theorem dX10_countOf_2 : decode cX10_countOf 2 = .ok (.iconst 0, 1) := by decide +kernel
theorem dX10_countOf_3 : decode cX10_countOf 3 = .ok (.istore 4, 2) := by decide +kernel
theorem dX10_countOf_5 : decode cX10_countOf 5 = .ok (.iload 4, 2) := by decide +kernel
theorem dX10_countOf_7 : decode cX10_countOf 7 = .ok (.lload_n 0, 1) := by decide +kernel
theorem dX10_countOf_8 : decode cX10_countOf 8 = .ok (.invokestatic 17, 3) := by decide +kernel
theorem dX10_countOf_11 : decode cX10_countOf 11 = .ok (.if_icmp .ge 22, 3) := by decide +kernel
theorem dX10_countOf_14 : decode cX10_countOf 14 = .ok (.lload_n 0, 1) := by decide +kernel
theorem dX10_countOf_15 : decode cX10_countOf 15 = .ok (.iload 4, 2) := by decide +kernel
theorem dX10_countOf_17 : decode cX10_countOf 17 = .ok (.invokestatic 21, 3) := by decide +kernel
theorem dX10_countOf_20 : decode cX10_countOf 20 = .ok (.iload_n 2, 1) := by decide +kernel
theorem dX10_countOf_21 : decode cX10_countOf 21 = .ok (.if_icmp .ne 6, 3) := by decide +kernel
theorem dX10_countOf_24 : decode cX10_countOf 24 = .ok (.iinc 3 1, 3) := by decide +kernel
theorem dX10_countOf_27 : decode cX10_countOf 27 = .ok (.iinc 4 1, 3) := by decide +kernel
theorem dX10_countOf_30 : decode cX10_countOf 30 = .ok (.goto (-25), 3) := by decide +kernel
theorem dX10_countOf_33 : decode cX10_countOf 33 = .ok (.iload_n 3, 1) := by decide +kernel
theorem dX10_countOf_34 : decode cX10_countOf 34 = .ok (.ireturn, 1) := by decide +kernel
abbrev rmX10_countOf : Room := { frames := 1, cells := 0, slots := 0, locals := 22 }
noncomputable def fLX10_countOf_5 (x0 : Int64) (x2 : Int32) (a : Int32 × Int32) : Option ((Int32 × Int32) ⊕ (Int32)) :=
(fX10_length x0).bind fun w8 =>
if w8 ≤ a.2 then
(some (Sum.inr a.1))
else
((fX10_letterOf x0 a.2).bind fun w17 =>
if w17 = x2 then
(xlet (a.1 + 1) fun v24 =>
xlet (a.2 + 1) fun v27 =>
some (Sum.inl (v24, v27)))
else
(xlet (a.2 + 1) fun v27 =>
some (Sum.inl (a.1, v27))))
set_option maxHeartbeats 4000000 in
set_option maxRecDepth 100000 in
theorem lpX10_countOf_5 {X : xX} {σ : St} {x0 : Int64} {x2 : Int32}  {a0 : Int32 × Int32} {b : Int32} (C : Ok X cX10_countOf 5 RX10 rmX10_countOf (some .int)) (hb : iterP (fLX10_countOf_5 x0 x2) a0 = some b) (hy0 : ∀ s, b = s → V X (0, 0) σ 33 [(3, .int (s))] []) : V X (0, 0) σ 5 [(0, .long (x0)), (2, .int (x2)), (3, .int (a0.1)), (4, .int (a0.2))] [] := by
  obtain ⟨n, hn⟩ := iterP_some hb
  refine x_loop (P := fun a => V X (0, 0) σ 5 [(0, .long (x0)), (2, .int (x2)), (3, .int (a.1)), (4, .int (a.2))] []) ?_ n a0 hn
  intro a c hf hK hxx
  have hx0 : ∀ s, c = Sum.inr s → V X (0, 0) σ 33 [(3, .int (s))] [] := fun s e => hy0 s (hxx _ e).symm
  unfold fLX10_countOf_5 at hf
  refine x_iload C dX10_countOf_5 7 rfl 3 rfl ?_
  refine x_lload_n C dX10_countOf_7 8 rfl 0 rfl rfl ?_
  obtain ⟨w8, hw8, hf⟩ := x_bind hf
  refine x_callSi C dX10_countOf_8 11 rfl (cX10_lengthc hw8) kX10_length ksX10_length w646 ⟨rfl, rfl⟩ ⟨Nat.le_of_ble_eq_true rfl, Nat.le_of_ble_eq_true rfl⟩ ⟨Nat.zero_le _, Nat.zero_le _⟩ rfl rfl (Nat.le_of_ble_eq_true rfl) ?_
  refine x_icmp_ge C dX10_countOf_11 33 (by decide) 14 rfl (fun hc => ?_) (fun hc => ?_)
  · have hf := (if_pos hc).symm.trans hf
    refine x_lv [2] (lv' := [(3, .int (a.1))]) rfl ?_
    exact hx0 _ (Option.some.inj hf).symm
  · have hf := (if_neg hc).symm.trans hf
    refine x_lload_n C dX10_countOf_14 15 rfl 0 rfl rfl ?_
    refine x_iload C dX10_countOf_15 17 rfl 3 rfl ?_
    obtain ⟨w17, hw17, hf⟩ := x_bind hf
    refine x_callSi C dX10_countOf_17 20 rfl (cX10_letterOfc hw17) kX10_letterOf ksX10_letterOf w711 ⟨rfl, rfl⟩ ⟨Nat.le_of_ble_eq_true rfl, Nat.le_of_ble_eq_true rfl⟩ ⟨Nat.zero_le _, Nat.zero_le _⟩ rfl rfl (Nat.le_of_ble_eq_true rfl) ?_
    refine x_iload_n C dX10_countOf_20 21 rfl 1 rfl rfl ?_
    refine x_icmp_ne C dX10_countOf_21 27 (by decide) 24 rfl (fun hc => ?_) (fun hc => ?_)
    · have hf := (if_neg hc).symm.trans hf
      obtain ⟨v27, ev27, hf⟩ := xlet_some hf
      refine x_iinc C dX10_countOf_27 30 rfl 3 rfl v27 ev27 rfl [(4, .int (v27)), (0, .long (x0)), (2, .int (x2)), (3, .int (a.1))] rfl ?_
      refine x_goto C dX10_countOf_30 5 (by decide) ?_
      refine x_lv [1, 2, 3, 0] (lv' := [(0, .long (x0)), (2, .int (x2)), (3, .int (a.1)), (4, .int (v27))]) rfl ?_
      exact hK _ (Option.some.inj hf).symm
    · have hf := (if_pos hc).symm.trans hf
      obtain ⟨v24, ev24, hf⟩ := xlet_some hf
      refine x_iinc C dX10_countOf_24 27 rfl 2 rfl v24 ev24 rfl [(3, .int (v24)), (0, .long (x0)), (2, .int (x2)), (4, .int (a.2))] rfl ?_
      obtain ⟨v27, ev27, hf⟩ := xlet_some hf
      refine x_iinc C dX10_countOf_27 30 rfl 3 rfl v27 ev27 rfl [(4, .int (v27)), (3, .int (v24)), (0, .long (x0)), (2, .int (x2))] rfl ?_
      refine x_goto C dX10_countOf_30 5 (by decide) ?_
      refine x_lv [2, 3, 1, 0] (lv' := [(0, .long (x0)), (2, .int (x2)), (3, .int (v24)), (4, .int (v27))]) rfl ?_
      exact hK _ (Option.some.inj hf).symm
noncomputable def fX10_countOf (x0 : Int64) (x2 : Int32) : Option (Int32) :=
(iterP (fLX10_countOf_5 x0 x2) (0, 0)).bind fun b5 =>
some b5
set_option maxHeartbeats 4000000 in
set_option maxRecDepth 100000 in
theorem cX10_countOfc {l : Launch} {G : xG} {A : Nat → Prop} {σ : St} {x0 : Int64} {x2 : Int32} {c : Int32} (hf : fX10_countOf x0 x2 = some c) : Con l yX10_countOf (xws yX10_countOf cX10_countOf 5 (some .int)) rmX10_countOf [.long (x0), .int (x2)] G A σ (some (.int c)) σ := by
  refine x_start rfl (Nat.le_of_ble_eq_true rfl) (fun X _ _ _ C hE0 => ?_)
  have hE : ∀ r, c = r → xE1 X (some (.int r)) σ := fun r e => e ▸ hE0
  show V X (0, 0) σ 0 [(0, .long (x0)), (2, .int (x2))] []
  unfold fX10_countOf at hf
  refine x_iconst C dX10_countOf_0 1 rfl 0 (by decide) ?_
  refine x_istore_n C dX10_countOf_1 2 rfl rfl rfl [(3, .int (0)), (0, .long (x0)), (2, .int (x2))] rfl ?_
  refine x_iconst C dX10_countOf_2 3 rfl 0 (by decide) ?_
  refine x_istore C dX10_countOf_3 5 rfl rfl [(4, .int (0)), (3, .int (0)), (0, .long (x0)), (2, .int (x2))] rfl ?_
  obtain ⟨b5, hb5, hf⟩ := x_bind hf
  refine x_lv [2, 3, 1, 0] (lv' := [(0, .long (x0)), (2, .int (x2)), (3, .int (0)), (4, .int (0))]) rfl ?_
  refine lpX10_countOf_5 C hb5 (fun s5 e5 => ?_)
  subst e5
  refine x_iload_n C dX10_countOf_33 34 rfl 0 rfl rfl ?_
  exact x_iret C (hE _ (Option.some.inj hf).symm) dX10_countOf_34
theorem dX10_fits_0 : decode cX10_fits 0 = .ok (.lload_n 3, 1) := by decide +kernel
theorem dX10_fits_1 : decode cX10_fits 1 = .ok (.bipush 48, 2) := by decide +kernel
theorem dX10_fits_3 : decode cX10_fits 3 = .ok (.lushr, 1) := by decide +kernel
theorem dX10_fits_4 : decode cX10_fits 4 = .ok (.l2i, 1) := by decide +kernel
theorem dX10_fits_5 : decode cX10_fits 5 = .ok (.istore 7, 2) := by decide +kernel
theorem dX10_fits_7 : decode cX10_fits 7 = .ok (.lconst 1, 1) := by decide +kernel
theorem dX10_fits_8 : decode cX10_fits 8 = .ok (.iconst 3, 1) := by decide +kernel
theorem dX10_fits_9 : decode cX10_fits 9 = .ok (.iload 7, 2) := by decide +kernel
theorem dX10_fits_11 : decode cX10_fits 11 = .ok (.imul, 1) := by decide +kernel
theorem dX10_fits_12 : decode cX10_fits 12 = .ok (.lshl, 1) := by decide +kernel
theorem dX10_fits_13 : decode cX10_fits 13 = .ok (.lconst 1, 1) := by decide +kernel
theorem dX10_fits_14 : decode cX10_fits 14 = .ok (.lsub, 1) := by decide +kernel
theorem dX10_fits_15 : decode cX10_fits 15 = .ok (.lstore 8, 2) := by decide +kernel
theorem dX10_fits_17 : decode cX10_fits 17 = .ok (.lload_n 0, 1) := by decide +kernel
theorem dX10_fits_18 : decode cX10_fits 18 = .ok (.ldc2_w 15, 3) := by decide +kernel
theorem dX10_fits_21 : decode cX10_fits 21 = .ok (.land, 1) := by decide +kernel
theorem dX10_fits_22 : decode cX10_fits 22 = .ok (.iconst 3, 1) := by decide +kernel
theorem dX10_fits_23 : decode cX10_fits 23 = .ok (.iload_n 2, 1) := by decide +kernel
theorem dX10_fits_24 : decode cX10_fits 24 = .ok (.imul, 1) := by decide +kernel
theorem dX10_fits_25 : decode cX10_fits 25 = .ok (.lushr, 1) := by decide +kernel
theorem dX10_fits_26 : decode cX10_fits 26 = .ok (.lload 8, 2) := by decide +kernel
theorem dX10_fits_28 : decode cX10_fits 28 = .ok (.land, 1) := by decide +kernel
theorem dX10_fits_29 : decode cX10_fits 29 = .ok (.lload_n 3, 1) := by decide +kernel
theorem dX10_fits_30 : decode cX10_fits 30 = .ok (.ldc2_w 15, 3) := by decide +kernel
theorem dX10_fits_33 : decode cX10_fits 33 = .ok (.land, 1) := by decide +kernel
theorem dX10_fits_34 : decode cX10_fits 34 = .ok (.lcmp, 1) := by decide +kernel
theorem dX10_fits_35 : decode cX10_fits 35 = .ok (.ifCond .ne 27, 3) := by decide +kernel
theorem dX10_fits_38 : decode cX10_fits 38 = .ok (.lload_n 0, 1) := by decide +kernel
theorem dX10_fits_39 : decode cX10_fits 39 = .ok (.bipush 48, 2) := by decide +kernel
theorem dX10_fits_41 : decode cX10_fits 41 = .ok (.lushr, 1) := by decide +kernel
theorem dX10_fits_42 : decode cX10_fits 42 = .ok (.l2i, 1) := by decide +kernel
theorem dX10_fits_43 : decode cX10_fits 43 = .ok (.iload 7, 2) := by decide +kernel
theorem dX10_fits_45 : decode cX10_fits 45 = .ok (.isub, 1) := by decide +kernel
theorem dX10_fits_46 : decode cX10_fits 46 = .ok (.lload 5, 2) := by decide +kernel
theorem dX10_fits_48 : decode cX10_fits 48 = .ok (.bipush 48, 2) := by decide +kernel
theorem dX10_fits_50 : decode cX10_fits 50 = .ok (.lushr, 1) := by decide +kernel
theorem dX10_fits_51 : decode cX10_fits 51 = .ok (.l2i, 1) := by decide +kernel
theorem dX10_fits_52 : decode cX10_fits 52 = .ok (.iadd, 1) := by decide +kernel
theorem dX10_fits_53 : decode cX10_fits 53 = .ok (.bipush 16, 2) := by decide +kernel
theorem dX10_fits_55 : decode cX10_fits 55 = .ok (.if_icmp .gt 7, 3) := by decide +kernel
theorem dX10_fits_58 : decode cX10_fits 58 = .ok (.iconst 1, 1) := by decide +kernel
theorem dX10_fits_59 : decode cX10_fits 59 = .ok (.goto 4, 3) := by decide +kernel
theorem dX10_fits_62 : decode cX10_fits 62 = .ok (.iconst 0, 1) := by decide +kernel
theorem dX10_fits_63 : decode cX10_fits 63 = .ok (.ireturn, 1) := by decide +kernel
abbrev rmX10_fits : Room := { frames := 0, cells := 0, slots := 0, locals := 0 }
noncomputable def fX10_fits (x0 : Int64) (x2 : Int32) (x3 : Int64) (x5 : Int64) : Option (Int32) :=
xlet (((x3.toUInt64 >>> ((48 : Int32).toInt64.toUInt64 &&& Int64.toUInt64 63)).toInt64).toInt32) fun v5 =>
xlet ((1 <<< ((3 * v5).toInt64 &&& 63)) - 1) fun v15 =>
if (lg_cmp ((((x0 &&& 281474976710655).toUInt64 >>> ((3 * x2).toInt64.toUInt64 &&& Int64.toUInt64 63)).toInt64) &&& v15) (x3 &&& 281474976710655)) = 0 then
(if ((16 : Int32)) < (((((x0.toUInt64 >>> ((48 : Int32).toInt64.toUInt64 &&& Int64.toUInt64 63)).toInt64).toInt32) - v5) + (((x5.toUInt64 >>> ((48 : Int32).toInt64.toUInt64 &&& Int64.toUInt64 63)).toInt64).toInt32)) then
(some 0)
else
(some 1))
else
(some 0)
set_option maxHeartbeats 4000000 in
set_option maxRecDepth 100000 in
theorem cX10_fitsc {l : Launch} {G : xG} {A : Nat → Prop} {σ : St} {x0 : Int64} {x2 : Int32} {x3 : Int64} {x5 : Int64} {c : Int32} (hf : fX10_fits x0 x2 x3 x5 = some c) : Con l yX10_fits (xws yX10_fits cX10_fits 10 (some .boolean)) rmX10_fits [.long (x0), .int (x2), .long (x3), .long (x5)] G A σ (some (.int c)) σ := by
  refine x_start rfl (Nat.le_of_ble_eq_true rfl) (fun X _ _ _ C hE0 => ?_)
  have hE : ∀ r, c = r → xE1 X (some (.int r)) σ := fun r e => e ▸ hE0
  show V X (0, 0) σ 0 [(0, .long (x0)), (2, .int (x2)), (3, .long (x3)), (5, .long (x5))] []
  unfold fX10_fits at hf
  refine x_lload_n C dX10_fits_0 1 rfl 2 rfl rfl ?_
  refine x_bipush C dX10_fits_1 3 rfl 48 (by decide) ?_
  refine x_lushr C dX10_fits_3 4 rfl ?_
  refine x_l2i C dX10_fits_4 5 rfl ?_
  obtain ⟨v5, ev5, hf⟩ := xlet_some hf
  refine x_topi ev5 ?_
  refine x_istore C dX10_fits_5 7 rfl rfl [(7, .int (v5)), (0, .long (x0)), (2, .int (x2)), (3, .long (x3)), (5, .long (x5))] rfl ?_
  refine x_lconst C dX10_fits_7 8 rfl 1 (by decide) ?_
  refine x_iconst C dX10_fits_8 9 rfl 3 (by decide) ?_
  refine x_iload C dX10_fits_9 11 rfl 0 rfl ?_
  refine x_imul C dX10_fits_11 12 rfl ?_
  refine x_lshl C dX10_fits_12 13 rfl ?_
  refine x_lconst C dX10_fits_13 14 rfl 1 (by decide) ?_
  refine x_lsub C dX10_fits_14 15 rfl ?_
  obtain ⟨v15, ev15, hf⟩ := xlet_some hf
  refine x_topl ev15 ?_
  refine x_lstore C dX10_fits_15 17 rfl rfl [(8, .long (v15)), (7, .int (v5)), (0, .long (x0)), (2, .int (x2)), (3, .long (x3)), (5, .long (x5))] rfl ?_
  refine x_lload_n C dX10_fits_17 18 rfl 2 rfl rfl ?_
  refine x_ldc2 C dX10_fits_18 21 rfl w650 ?_
  refine x_land C dX10_fits_21 22 rfl ?_
  refine x_iconst C dX10_fits_22 23 rfl 3 (by decide) ?_
  refine x_iload_n C dX10_fits_23 24 rfl 3 rfl rfl ?_
  refine x_imul C dX10_fits_24 25 rfl ?_
  refine x_lushr C dX10_fits_25 26 rfl ?_
  refine x_lload C dX10_fits_26 28 rfl 0 rfl ?_
  refine x_land C dX10_fits_28 29 rfl ?_
  refine x_lload_n C dX10_fits_29 30 rfl 4 rfl rfl ?_
  refine x_ldc2 C dX10_fits_30 33 rfl w650 ?_
  refine x_land C dX10_fits_33 34 rfl ?_
  refine x_lcmp C dX10_fits_34 35 rfl ?_
  refine x_if_ne C dX10_fits_35 62 (by decide) 38 rfl (fun hc => ?_) (fun hc => ?_)
  · have hf := (if_neg hc).symm.trans hf
    refine x_iconst C dX10_fits_62 63 rfl 0 (by decide) ?_
    exact x_zret C rfl (hE _ (Option.some.inj hf).symm) dX10_fits_63
  · have hf := (if_pos hc).symm.trans hf
    refine x_lload_n C dX10_fits_38 39 rfl 2 rfl rfl ?_
    refine x_bipush C dX10_fits_39 41 rfl 48 (by decide) ?_
    refine x_lushr C dX10_fits_41 42 rfl ?_
    refine x_l2i C dX10_fits_42 43 rfl ?_
    refine x_iload C dX10_fits_43 45 rfl 1 rfl ?_
    refine x_isub C dX10_fits_45 46 rfl ?_
    refine x_lload C dX10_fits_46 48 rfl 5 rfl ?_
    refine x_bipush C dX10_fits_48 50 rfl 48 (by decide) ?_
    refine x_lushr C dX10_fits_50 51 rfl ?_
    refine x_l2i C dX10_fits_51 52 rfl ?_
    refine x_iadd C dX10_fits_52 53 rfl ?_
    refine x_bipush C dX10_fits_53 55 rfl 16 (by decide) ?_
    refine x_icmp_gt C dX10_fits_55 62 (by decide) 58 rfl (fun hc => ?_) (fun hc => ?_)
    · have hf := (if_pos hc).symm.trans hf
      refine x_iconst C dX10_fits_62 63 rfl 0 (by decide) ?_
      exact x_zret C rfl (hE _ (Option.some.inj hf).symm) dX10_fits_63
    · have hf := (if_neg hc).symm.trans hf
      refine x_iconst C dX10_fits_58 59 rfl 1 (by decide) ?_
      refine x_goto C dX10_fits_59 63 (by decide) ?_
      exact x_zret C rfl (hE _ (Option.some.inj hf).symm) dX10_fits_63
theorem dX10_standsAt_0 : decode cX10_standsAt 0 = .ok (.lconst 1, 1) := by decide +kernel
theorem dX10_standsAt_1 : decode cX10_standsAt 1 = .ok (.iconst 3, 1) := by decide +kernel
theorem dX10_standsAt_2 : decode cX10_standsAt 2 = .ok (.lload_n 3, 1) := by decide +kernel
theorem dX10_standsAt_3 : decode cX10_standsAt 3 = .ok (.bipush 48, 2) := by decide +kernel
theorem dX10_standsAt_5 : decode cX10_standsAt 5 = .ok (.lushr, 1) := by decide +kernel
theorem dX10_standsAt_6 : decode cX10_standsAt 6 = .ok (.l2i, 1) := by decide +kernel
theorem dX10_standsAt_7 : decode cX10_standsAt 7 = .ok (.imul, 1) := by decide +kernel
theorem dX10_standsAt_8 : decode cX10_standsAt 8 = .ok (.lshl, 1) := by decide +kernel
theorem dX10_standsAt_9 : decode cX10_standsAt 9 = .ok (.lconst 1, 1) := by decide +kernel
theorem dX10_standsAt_10 : decode cX10_standsAt 10 = .ok (.lsub, 1) := by decide +kernel
theorem dX10_standsAt_11 : decode cX10_standsAt 11 = .ok (.lstore 5, 2) := by decide +kernel
theorem dX10_standsAt_13 : decode cX10_standsAt 13 = .ok (.lload_n 0, 1) := by decide +kernel
theorem dX10_standsAt_14 : decode cX10_standsAt 14 = .ok (.ldc2_w 15, 3) := by decide +kernel
theorem dX10_standsAt_17 : decode cX10_standsAt 17 = .ok (.land, 1) := by decide +kernel
theorem dX10_standsAt_18 : decode cX10_standsAt 18 = .ok (.iconst 3, 1) := by decide +kernel
theorem dX10_standsAt_19 : decode cX10_standsAt 19 = .ok (.iload_n 2, 1) := by decide +kernel
theorem dX10_standsAt_20 : decode cX10_standsAt 20 = .ok (.imul, 1) := by decide +kernel
theorem dX10_standsAt_21 : decode cX10_standsAt 21 = .ok (.lushr, 1) := by decide +kernel
theorem dX10_standsAt_22 : decode cX10_standsAt 22 = .ok (.lload 5, 2) := by decide +kernel
theorem dX10_standsAt_24 : decode cX10_standsAt 24 = .ok (.land, 1) := by decide +kernel
theorem dX10_standsAt_25 : decode cX10_standsAt 25 = .ok (.lload_n 3, 1) := by decide +kernel
theorem dX10_standsAt_26 : decode cX10_standsAt 26 = .ok (.ldc2_w 15, 3) := by decide +kernel
theorem dX10_standsAt_29 : decode cX10_standsAt 29 = .ok (.land, 1) := by decide +kernel
theorem dX10_standsAt_30 : decode cX10_standsAt 30 = .ok (.lcmp, 1) := by decide +kernel
theorem dX10_standsAt_31 : decode cX10_standsAt 31 = .ok (.ifCond .ne 7, 3) := by decide +kernel
theorem dX10_standsAt_34 : decode cX10_standsAt 34 = .ok (.iconst 1, 1) := by decide +kernel
theorem dX10_standsAt_35 : decode cX10_standsAt 35 = .ok (.goto 4, 3) := by decide +kernel
theorem dX10_standsAt_38 : decode cX10_standsAt 38 = .ok (.iconst 0, 1) := by decide +kernel
theorem dX10_standsAt_39 : decode cX10_standsAt 39 = .ok (.ireturn, 1) := by decide +kernel
abbrev rmX10_standsAt : Room := { frames := 0, cells := 0, slots := 0, locals := 0 }
noncomputable def fX10_standsAt (x0 : Int64) (x2 : Int32) (x3 : Int64) : Option (Int32) :=
xlet ((1 <<< ((3 * (((x3.toUInt64 >>> ((48 : Int32).toInt64.toUInt64 &&& Int64.toUInt64 63)).toInt64).toInt32)).toInt64 &&& 63)) - 1) fun v11 =>
if (lg_cmp ((((x0 &&& 281474976710655).toUInt64 >>> ((3 * x2).toInt64.toUInt64 &&& Int64.toUInt64 63)).toInt64) &&& v11) (x3 &&& 281474976710655)) = 0 then
(some 1)
else
(some 0)
set_option maxHeartbeats 4000000 in
set_option maxRecDepth 100000 in
theorem cX10_standsAtc {l : Launch} {G : xG} {A : Nat → Prop} {σ : St} {x0 : Int64} {x2 : Int32} {x3 : Int64} {c : Int32} (hf : fX10_standsAt x0 x2 x3 = some c) : Con l yX10_standsAt (xws yX10_standsAt cX10_standsAt 7 (some .boolean)) rmX10_standsAt [.long (x0), .int (x2), .long (x3)] G A σ (some (.int c)) σ := by
  refine x_start rfl (Nat.le_of_ble_eq_true rfl) (fun X _ _ _ C hE0 => ?_)
  have hE : ∀ r, c = r → xE1 X (some (.int r)) σ := fun r e => e ▸ hE0
  show V X (0, 0) σ 0 [(0, .long (x0)), (2, .int (x2)), (3, .long (x3))] []
  unfold fX10_standsAt at hf
  refine x_lconst C dX10_standsAt_0 1 rfl 1 (by decide) ?_
  refine x_iconst C dX10_standsAt_1 2 rfl 3 (by decide) ?_
  refine x_lload_n C dX10_standsAt_2 3 rfl 2 rfl rfl ?_
  refine x_bipush C dX10_standsAt_3 5 rfl 48 (by decide) ?_
  refine x_lushr C dX10_standsAt_5 6 rfl ?_
  refine x_l2i C dX10_standsAt_6 7 rfl ?_
  refine x_imul C dX10_standsAt_7 8 rfl ?_
  refine x_lshl C dX10_standsAt_8 9 rfl ?_
  refine x_lconst C dX10_standsAt_9 10 rfl 1 (by decide) ?_
  refine x_lsub C dX10_standsAt_10 11 rfl ?_
  obtain ⟨v11, ev11, hf⟩ := xlet_some hf
  refine x_topl ev11 ?_
  refine x_lstore C dX10_standsAt_11 13 rfl rfl [(5, .long (v11)), (0, .long (x0)), (2, .int (x2)), (3, .long (x3))] rfl ?_
  refine x_lload_n C dX10_standsAt_13 14 rfl 1 rfl rfl ?_
  refine x_ldc2 C dX10_standsAt_14 17 rfl w650 ?_
  refine x_land C dX10_standsAt_17 18 rfl ?_
  refine x_iconst C dX10_standsAt_18 19 rfl 3 (by decide) ?_
  refine x_iload_n C dX10_standsAt_19 20 rfl 2 rfl rfl ?_
  refine x_imul C dX10_standsAt_20 21 rfl ?_
  refine x_lushr C dX10_standsAt_21 22 rfl ?_
  refine x_lload C dX10_standsAt_22 24 rfl 0 rfl ?_
  refine x_land C dX10_standsAt_24 25 rfl ?_
  refine x_lload_n C dX10_standsAt_25 26 rfl 3 rfl rfl ?_
  refine x_ldc2 C dX10_standsAt_26 29 rfl w650 ?_
  refine x_land C dX10_standsAt_29 30 rfl ?_
  refine x_lcmp C dX10_standsAt_30 31 rfl ?_
  refine x_if_ne C dX10_standsAt_31 38 (by decide) 34 rfl (fun hc => ?_) (fun hc => ?_)
  · have hf := (if_neg hc).symm.trans hf
    refine x_iconst C dX10_standsAt_38 39 rfl 0 (by decide) ?_
    exact x_zret C rfl (hE _ (Option.some.inj hf).symm) dX10_standsAt_39
  · have hf := (if_pos hc).symm.trans hf
    refine x_iconst C dX10_standsAt_34 35 rfl 1 (by decide) ?_
    refine x_goto C dX10_standsAt_35 39 (by decide) ?_
    exact x_zret C rfl (hE _ (Option.some.inj hf).symm) dX10_standsAt_39
theorem dX10_holds_0 : decode cX10_holds 0 = .ok (.iconst 0, 1) := by decide +kernel
theorem dX10_holds_1 : decode cX10_holds 1 = .ok (.istore 4, 2) := by decide +kernel
theorem dX10_holds_3 : decode cX10_holds 3 = .ok (.iload 4, 2) := by decide +kernel
theorem dX10_holds_5 : decode cX10_holds 5 = .ok (.lload_n 0, 1) := by decide +kernel
theorem dX10_holds_6 : decode cX10_holds 6 = .ok (.invokestatic 17, 3) := by decide +kernel
theorem dX10_holds_9 : decode cX10_holds 9 = .ok (.if_icmp .ge 21, 3) := by decide +kernel
theorem dX10_holds_12 : decode cX10_holds 12 = .ok (.lload_n 0, 1) := by decide +kernel
theorem dX10_holds_13 : decode cX10_holds 13 = .ok (.iload 4, 2) := by decide +kernel
theorem dX10_holds_15 : decode cX10_holds 15 = .ok (.lload_n 2, 1) := by decide +kernel
theorem dX10_holds_16 : decode cX10_holds 16 = .ok (.invokestatic 29, 3) := by decide +kernel
theorem dX10_holds_19 : decode cX10_holds 19 = .ok (.ifCond .eq 5, 3) := by decide +kernel
theorem dX10_holds_22 : decode cX10_holds 22 = .ok (.iconst 1, 1) := by decide +kernel
theorem dX10_holds_23 : decode cX10_holds 23 = .ok (.ireturn, 1) := by decide +kernel
theorem dX10_holds_24 : decode cX10_holds 24 = .ok (.iinc 4 1, 3) := by decide +kernel
theorem dX10_holds_27 : decode cX10_holds 27 = .ok (.goto (-24), 3) := by decide +kernel
theorem dX10_holds_30 : decode cX10_holds 30 = .ok (.iconst 0, 1) := by decide +kernel
theorem dX10_holds_31 : decode cX10_holds 31 = .ok (.ireturn, 1) := by decide +kernel
abbrev rmX10_holds : Room := { frames := 1, cells := 0, slots := 0, locals := 26 }
noncomputable def fLX10_holds_3 (x0 : Int64) (x2 : Int64) (a : Int32) : Option ((Int32) ⊕ ((Unit) ⊕ (Unit))) :=
(fX10_length x0).bind fun w6 =>
if w6 ≤ a then
(some (Sum.inr (Sum.inr ())))
else
((fX10_standsAt x0 a x2).bind fun w16 =>
if w16 = 0 then
(xlet (a + 1) fun v24 =>
some (Sum.inl v24))
else
(some (Sum.inr (Sum.inl ()))))
set_option maxHeartbeats 4000000 in
set_option maxRecDepth 100000 in
theorem lpX10_holds_3 {X : xX} {σ : St} {x0 : Int64} {x2 : Int64}  {a0 : Int32} {b : (Unit) ⊕ (Unit)} (C : Ok X cX10_holds 5 RX10 rmX10_holds (some .boolean)) (hb : iterP (fLX10_holds_3 x0 x2) a0 = some b) (hy0 : ∀ s, b = (Sum.inl s) → V X (0, 0) σ 22 [] []) (hy1 : ∀ s, b = (Sum.inr s) → V X (0, 0) σ 30 [] []) : V X (0, 0) σ 3 [(0, .long (x0)), (2, .long (x2)), (4, .int (a0))] [] := by
  obtain ⟨n, hn⟩ := iterP_some hb
  refine x_loop (P := fun a => V X (0, 0) σ 3 [(0, .long (x0)), (2, .long (x2)), (4, .int (a))] []) ?_ n a0 hn
  intro a c hf hK hxx
  have hx0 : ∀ s, c = Sum.inr (Sum.inl s) → V X (0, 0) σ 22 [] [] := fun s e => hy0 s (hxx _ e).symm
  have hx1 : ∀ s, c = Sum.inr (Sum.inr s) → V X (0, 0) σ 30 [] [] := fun s e => hy1 s (hxx _ e).symm
  unfold fLX10_holds_3 at hf
  refine x_iload C dX10_holds_3 5 rfl 2 rfl ?_
  refine x_lload_n C dX10_holds_5 6 rfl 0 rfl rfl ?_
  obtain ⟨w6, hw6, hf⟩ := x_bind hf
  refine x_callSi C dX10_holds_6 9 rfl (cX10_lengthc hw6) kX10_length ksX10_length w646 ⟨rfl, rfl⟩ ⟨Nat.le_of_ble_eq_true rfl, Nat.le_of_ble_eq_true rfl⟩ ⟨Nat.zero_le _, Nat.zero_le _⟩ rfl rfl (Nat.le_of_ble_eq_true rfl) ?_
  refine x_icmp_ge C dX10_holds_9 30 (by decide) 12 rfl (fun hc => ?_) (fun hc => ?_)
  · have hf := (if_pos hc).symm.trans hf
    refine x_lv [] (lv' := []) rfl ?_
    exact hx1 _ (Option.some.inj hf).symm
  · have hf := (if_neg hc).symm.trans hf
    refine x_lload_n C dX10_holds_12 13 rfl 0 rfl rfl ?_
    refine x_iload C dX10_holds_13 15 rfl 2 rfl ?_
    refine x_lload_n C dX10_holds_15 16 rfl 1 rfl rfl ?_
    obtain ⟨w16, hw16, hf⟩ := x_bind hf
    refine x_callSi C dX10_holds_16 19 rfl (cX10_standsAtc hw16) kX10_standsAt ksX10_standsAt w647 ⟨rfl, rfl⟩ ⟨Nat.le_of_ble_eq_true rfl, Nat.le_of_ble_eq_true rfl⟩ ⟨Nat.zero_le _, Nat.zero_le _⟩ rfl rfl (Nat.le_of_ble_eq_true rfl) ?_
    refine x_if_eq C dX10_holds_19 24 (by decide) 22 rfl (fun hc => ?_) (fun hc => ?_)
    · have hf := (if_pos hc).symm.trans hf
      obtain ⟨v24, ev24, hf⟩ := xlet_some hf
      refine x_iinc C dX10_holds_24 27 rfl 2 rfl v24 ev24 rfl [(4, .int (v24)), (0, .long (x0)), (2, .long (x2))] rfl ?_
      refine x_goto C dX10_holds_27 3 (by decide) ?_
      refine x_lv [1, 2, 0] (lv' := [(0, .long (x0)), (2, .long (x2)), (4, .int (v24))]) rfl ?_
      exact hK _ (Option.some.inj hf).symm
    · have hf := (if_neg hc).symm.trans hf
      refine x_lv [] (lv' := []) rfl ?_
      exact hx0 _ (Option.some.inj hf).symm
noncomputable def fX10_holds (x0 : Int64) (x2 : Int64) : Option (Int32) :=
(iterP (fLX10_holds_3 x0 x2) 0).bind fun b3 =>
(match b3 with
| .inl s3 =>
some 1
| .inr s3 =>
some 0)
set_option maxHeartbeats 4000000 in
set_option maxRecDepth 100000 in
theorem cX10_holdsc {l : Launch} {G : xG} {A : Nat → Prop} {σ : St} {x0 : Int64} {x2 : Int64} {c : Int32} (hf : fX10_holds x0 x2 = some c) : Con l yX10_holds (xws yX10_holds cX10_holds 5 (some .boolean)) rmX10_holds [.long (x0), .long (x2)] G A σ (some (.int c)) σ := by
  refine x_start rfl (Nat.le_of_ble_eq_true rfl) (fun X _ _ _ C hE0 => ?_)
  have hE : ∀ r, c = r → xE1 X (some (.int r)) σ := fun r e => e ▸ hE0
  show V X (0, 0) σ 0 [(0, .long (x0)), (2, .long (x2))] []
  unfold fX10_holds at hf
  refine x_iconst C dX10_holds_0 1 rfl 0 (by decide) ?_
  refine x_istore C dX10_holds_1 3 rfl rfl [(4, .int (0)), (0, .long (x0)), (2, .long (x2))] rfl ?_
  obtain ⟨b3, hb3, hf⟩ := x_bind hf
  refine x_lv [1, 2, 0] (lv' := [(0, .long (x0)), (2, .long (x2)), (4, .int (0))]) rfl ?_
  refine lpX10_holds_3 C hb3 (fun s3 e3 => ?_) (fun s3 e3 => ?_)
  · subst e3
    try dsimp only at hf
    refine x_iconst C dX10_holds_22 23 rfl 1 (by decide) ?_
    exact x_zret C rfl (hE _ (Option.some.inj hf).symm) dX10_holds_23
  · subst e3
    try dsimp only at hf
    refine x_iconst C dX10_holds_30 31 rfl 0 (by decide) ?_
    exact x_zret C rfl (hE _ (Option.some.inj hf).symm) dX10_holds_31
