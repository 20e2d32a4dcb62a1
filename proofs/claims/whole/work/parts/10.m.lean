/-! methods: J6_compare_7cf53 X8_copyFrom X10_length X10_letterOf X10_longer X10_backwards X10_fits X10_standsAt X10_holds X10_replaced X8_weighBy X8_weigh X8_order X8_codeOf X8_add X8_stepCode -/
theorem dJ6_compare_7cf53_0 : decode cJ6_compare_7cf53 0 = .ok (.iload_n 0, 1) := by decide +kernel
theorem dJ6_compare_7cf53_1 : decode cJ6_compare_7cf53 1 = .ok (.iload_n 1, 1) := by decide +kernel
theorem dJ6_compare_7cf53_2 : decode cJ6_compare_7cf53 2 = .ok (.if_icmp .ge 7, 3) := by decide +kernel
theorem dJ6_compare_7cf53_5 : decode cJ6_compare_7cf53 5 = .ok (.iconst (-1), 1) := by decide +kernel
theorem dJ6_compare_7cf53_6 : decode cJ6_compare_7cf53 6 = .ok (.goto 13, 3) := by decide +kernel
theorem dJ6_compare_7cf53_9 : decode cJ6_compare_7cf53 9 = .ok (.iload_n 0, 1) := by decide +kernel
theorem dJ6_compare_7cf53_10 : decode cJ6_compare_7cf53 10 = .ok (.iload_n 1, 1) := by decide +kernel
theorem dJ6_compare_7cf53_11 : decode cJ6_compare_7cf53 11 = .ok (.if_icmp .ne 7, 3) := by decide +kernel
theorem dJ6_compare_7cf53_14 : decode cJ6_compare_7cf53 14 = .ok (.iconst 0, 1) := by decide +kernel
theorem dJ6_compare_7cf53_15 : decode cJ6_compare_7cf53 15 = .ok (.goto 4, 3) := by decide +kernel
theorem dJ6_compare_7cf53_18 : decode cJ6_compare_7cf53 18 = .ok (.iconst 1, 1) := by decide +kernel
theorem dJ6_compare_7cf53_19 : decode cJ6_compare_7cf53 19 = .ok (.ireturn, 1) := by decide +kernel
abbrev rmJ6_compare_7cf53 : Room := { frames := 0, cells := 0, slots := 0, locals := 0 }
noncomputable def fJ6_compare_7cf53 (x0 : Int32) (x1 : Int32) : Option (Int32) :=
if x1 ≤ x0 then
(if x0 = x1 then
(some 0)
else
(some 1))
else
(some (-1))
set_option maxHeartbeats 4000000 in
set_option maxRecDepth 100000 in
theorem cJ6_compare_7cf53c {l : Launch} {G : xG} {A : Nat → Prop} {σ : St} {x0 : Int32} {x1 : Int32} {c : Int32} (hf : fJ6_compare_7cf53 x0 x1 = some c) : Con l yJ6_compare_7cf53 (xws yJ6_compare_7cf53 cJ6_compare_7cf53 2 (some .int)) rmJ6_compare_7cf53 [.int (x0), .int (x1)] G A σ (some (.int c)) σ := by
  refine x_start rfl (Nat.le_of_ble_eq_true rfl) (fun X _ _ _ C hE0 => ?_)
  have hE : ∀ r, c = r → xE1 X (some (.int r)) σ := fun r e => e ▸ hE0
  show V X (0, 0) σ 0 [(0, .int (x0)), (1, .int (x1))] []
  unfold fJ6_compare_7cf53 at hf
  refine x_iload_n C dJ6_compare_7cf53_0 1 rfl 0 rfl rfl ?_
  refine x_iload_n C dJ6_compare_7cf53_1 2 rfl 1 rfl rfl ?_
  refine x_icmp_ge C dJ6_compare_7cf53_2 9 (by decide) 5 rfl (fun hc => ?_) (fun hc => ?_)
  · have hf := (if_pos hc).symm.trans hf
    refine x_iload_n C dJ6_compare_7cf53_9 10 rfl 0 rfl rfl ?_
    refine x_iload_n C dJ6_compare_7cf53_10 11 rfl 1 rfl rfl ?_
    refine x_icmp_ne C dJ6_compare_7cf53_11 18 (by decide) 14 rfl (fun hc => ?_) (fun hc => ?_)
    · have hf := (if_neg hc).symm.trans hf
      refine x_iconst C dJ6_compare_7cf53_18 19 rfl 1 (by decide) ?_
      exact x_iret C (hE _ (Option.some.inj hf).symm) dJ6_compare_7cf53_19
    · have hf := (if_pos hc).symm.trans hf
      refine x_iconst C dJ6_compare_7cf53_14 15 rfl 0 (by decide) ?_
      refine x_goto C dJ6_compare_7cf53_15 19 (by decide) ?_
      exact x_iret C (hE _ (Option.some.inj hf).symm) dJ6_compare_7cf53_19
  · have hf := (if_neg hc).symm.trans hf
    refine x_iconst C dJ6_compare_7cf53_5 6 rfl (-1) (by decide) ?_
    refine x_goto C dJ6_compare_7cf53_6 19 (by decide) ?_
    exact x_iret C (hE _ (Option.some.inj hf).symm) dJ6_compare_7cf53_19
theorem dX8_copyFrom_0 : decode cX8_copyFrom 0 = .ok (.aload_n 0, 1) := by decide +kernel
theorem dX8_copyFrom_1 : decode cX8_copyFrom 1 = .ok (.aload_n 1, 1) := by decide +kernel
theorem dX8_copyFrom_2 : decode cX8_copyFrom 2 = .ok (.getfield 9, 3) := by decide +kernel
theorem dX8_copyFrom_5 : decode cX8_copyFrom 5 = .ok (.putfield 9, 3) := by decide +kernel
theorem dX8_copyFrom_8 : decode cX8_copyFrom 8 = .ok (.aload_n 0, 1) := by decide +kernel
theorem dX8_copyFrom_9 : decode cX8_copyFrom 9 = .ok (.aload_n 1, 1) := by decide +kernel
theorem dX8_copyFrom_10 : decode cX8_copyFrom 10 = .ok (.getfield 15, 3) := by decide +kernel
theorem dX8_copyFrom_13 : decode cX8_copyFrom 13 = .ok (.putfield 15, 3) := by decide +kernel
theorem dX8_copyFrom_16 : decode cX8_copyFrom 16 = .ok (.aload_n 1, 1) := by decide +kernel
theorem dX8_copyFrom_17 : decode cX8_copyFrom 17 = .ok (.getfield 18, 3) := by decide +kernel
theorem dX8_copyFrom_20 : decode cX8_copyFrom 20 = .ok (.iconst 0, 1) := by decide +kernel
theorem dX8_copyFrom_21 : decode cX8_copyFrom 21 = .ok (.aload_n 0, 1) := by decide +kernel
theorem dX8_copyFrom_22 : decode cX8_copyFrom 22 = .ok (.getfield 18, 3) := by decide +kernel
theorem dX8_copyFrom_25 : decode cX8_copyFrom 25 = .ok (.iconst 0, 1) := by decide +kernel
theorem dX8_copyFrom_26 : decode cX8_copyFrom 26 = .ok (.bipush 12, 2) := by decide +kernel
theorem dX8_copyFrom_28 : decode cX8_copyFrom 28 = .ok (.invokestatic 45, 3) := by decide +kernel
theorem dX8_copyFrom_31 : decode cX8_copyFrom 31 = .ok (.aload_n 1, 1) := by decide +kernel
theorem dX8_copyFrom_32 : decode cX8_copyFrom 32 = .ok (.getfield 22, 3) := by decide +kernel
theorem dX8_copyFrom_35 : decode cX8_copyFrom 35 = .ok (.iconst 0, 1) := by decide +kernel
theorem dX8_copyFrom_36 : decode cX8_copyFrom 36 = .ok (.aload_n 0, 1) := by decide +kernel
theorem dX8_copyFrom_37 : decode cX8_copyFrom 37 = .ok (.getfield 22, 3) := by decide +kernel
theorem dX8_copyFrom_40 : decode cX8_copyFrom 40 = .ok (.iconst 0, 1) := by decide +kernel
theorem dX8_copyFrom_41 : decode cX8_copyFrom 41 = .ok (.bipush 12, 2) := by decide +kernel
theorem dX8_copyFrom_43 : decode cX8_copyFrom 43 = .ok (.invokestatic 45, 3) := by decide +kernel
theorem dX8_copyFrom_46 : decode cX8_copyFrom 46 = .ok (.aload_n 1, 1) := by decide +kernel
theorem dX8_copyFrom_47 : decode cX8_copyFrom 47 = .ok (.getfield 25, 3) := by decide +kernel
theorem dX8_copyFrom_50 : decode cX8_copyFrom 50 = .ok (.iconst 0, 1) := by decide +kernel
theorem dX8_copyFrom_51 : decode cX8_copyFrom 51 = .ok (.aload_n 0, 1) := by decide +kernel
theorem dX8_copyFrom_52 : decode cX8_copyFrom 52 = .ok (.getfield 25, 3) := by decide +kernel
theorem dX8_copyFrom_55 : decode cX8_copyFrom 55 = .ok (.iconst 0, 1) := by decide +kernel
theorem dX8_copyFrom_56 : decode cX8_copyFrom 56 = .ok (.iconst 5, 1) := by decide +kernel
theorem dX8_copyFrom_57 : decode cX8_copyFrom 57 = .ok (.invokestatic 45, 3) := by decide +kernel
theorem dX8_copyFrom_60 : decode cX8_copyFrom 60 = .ok (.aload_n 1, 1) := by decide +kernel
theorem dX8_copyFrom_61 : decode cX8_copyFrom 61 = .ok (.getfield 29, 3) := by decide +kernel
theorem dX8_copyFrom_64 : decode cX8_copyFrom 64 = .ok (.iconst 0, 1) := by decide +kernel
theorem dX8_copyFrom_65 : decode cX8_copyFrom 65 = .ok (.aload_n 0, 1) := by decide +kernel
theorem dX8_copyFrom_66 : decode cX8_copyFrom 66 = .ok (.getfield 29, 3) := by decide +kernel
theorem dX8_copyFrom_69 : decode cX8_copyFrom 69 = .ok (.iconst 0, 1) := by decide +kernel
theorem dX8_copyFrom_70 : decode cX8_copyFrom 70 = .ok (.iconst 5, 1) := by decide +kernel
theorem dX8_copyFrom_71 : decode cX8_copyFrom 71 = .ok (.invokestatic 45, 3) := by decide +kernel
theorem dX8_copyFrom_74 : decode cX8_copyFrom 74 = .ok (.aload_n 0, 1) := by decide +kernel
theorem dX8_copyFrom_75 : decode cX8_copyFrom 75 = .ok (.dup, 1) := by decide +kernel
theorem dX8_copyFrom_76 : decode cX8_copyFrom 76 = .ok (.getfield 32, 3) := by decide +kernel
theorem dX8_copyFrom_79 : decode cX8_copyFrom 79 = .ok (.iconst 1, 1) := by decide +kernel
theorem dX8_copyFrom_80 : decode cX8_copyFrom 80 = .ok (.iadd, 1) := by decide +kernel
theorem dX8_copyFrom_81 : decode cX8_copyFrom 81 = .ok (.putfield 32, 3) := by decide +kernel
theorem dX8_copyFrom_84 : decode cX8_copyFrom 84 = .ok (.return_, 1) := by decide +kernel
abbrev rmX8_copyFrom : Room := { frames := 1, cells := 0, slots := 0, locals := 60 }
noncomputable def fX8_copyFrom (σ : St) (x0 : Nat) (x1 : Nat) : Option (St) :=
(gI σ x1 8 0).bind fun v2 =>
(wrF σ x0 8 0 (.int (v2))).bind fun σ5 =>
(gI σ5 x1 8 1).bind fun v10 =>
(wrF σ5 x0 8 1 (.int (v10))).bind fun σ13 =>
(gR σ13 x1 8 2).bind fun v17 =>
(gR σ13 x0 8 2).bind fun v22 =>
(acL σ13 v17 0 v22 0 12).bind fun σ28 =>
(gR σ28 x1 8 3).bind fun v32 =>
(gR σ28 x0 8 3).bind fun v37 =>
(acL σ28 v32 0 v37 0 12).bind fun σ43 =>
(gR σ43 x1 8 4).bind fun v47 =>
(gR σ43 x0 8 4).bind fun v52 =>
(acI σ43 v47 0 v52 0 5).bind fun σ57 =>
(gR σ57 x1 8 5).bind fun v61 =>
(gR σ57 x0 8 5).bind fun v66 =>
(acI σ57 v61 0 v66 0 5).bind fun σ71 =>
(gI σ71 x0 8 6).bind fun v76 =>
(wrF σ71 x0 8 6 (.int (v76 + 1))).bind fun σ81 =>
some σ81
set_option maxHeartbeats 4000000 in
set_option maxRecDepth 100000 in
theorem cX8_copyFromc {l : Launch} {G : xG} {A : Nat → Prop} {σ : St} {x0 : Nat} {x1 : Nat} {c : St} (hf : fX8_copyFrom σ x0 x1 = some c) : Con l yX8_copyFrom (xws yX8_copyFrom cX8_copyFrom 2 none) rmX8_copyFrom [.ref (x0), .ref (x1)] G A σ none c := by
  refine x_start rfl (Nat.le_of_ble_eq_true rfl) (fun X _ _ _ C hE0 => ?_)
  have hE : ∀ r, c = r → xE1 X none r := fun r e => e ▸ hE0
  show V X (0, 0) σ 0 [(0, .ref (x0)), (1, .ref (x1))] []
  unfold fX8_copyFrom at hf
  refine x_aload_n C dX8_copyFrom_0 1 rfl 0 rfl rfl ?_
  refine x_aload_n C dX8_copyFrom_1 2 rfl 1 rfl rfl ?_
  obtain ⟨v2, hv2, hf⟩ := x_bind hf
  refine x_getI C dX8_copyFrom_2 5 rfl hv2 cl8 rfl w179 ?_
  obtain ⟨σ5, hσ5, hf⟩ := x_bind hf
  refine x_putX C dX8_copyFrom_5 8 rfl hσ5 cl8 rfl w179 rfl rfl rfl ?_
  refine x_aload_n C dX8_copyFrom_8 9 rfl 0 rfl rfl ?_
  refine x_aload_n C dX8_copyFrom_9 10 rfl 1 rfl rfl ?_
  obtain ⟨v10, hv10, hf⟩ := x_bind hf
  refine x_getI C dX8_copyFrom_10 13 rfl hv10 cl8 rfl w183 ?_
  obtain ⟨σ13, hσ13, hf⟩ := x_bind hf
  refine x_putX C dX8_copyFrom_13 16 rfl hσ13 cl8 rfl w183 rfl rfl rfl ?_
  refine x_aload_n C dX8_copyFrom_16 17 rfl 1 rfl rfl ?_
  obtain ⟨v17, hv17, hf⟩ := x_bind hf
  refine x_getR C dX8_copyFrom_17 20 rfl hv17 cl8 rfl w190 ?_
  refine x_iconst C dX8_copyFrom_20 21 rfl 0 (by decide) ?_
  refine x_aload_n C dX8_copyFrom_21 22 rfl 0 rfl rfl ?_
  obtain ⟨v22, hv22, hf⟩ := x_bind hf
  refine x_getR C dX8_copyFrom_22 25 rfl hv22 cl8 rfl w190 ?_
  refine x_iconst C dX8_copyFrom_25 26 rfl 0 (by decide) ?_
  refine x_bipush C dX8_copyFrom_26 28 rfl 12 (by decide) ?_
  obtain ⟨σ28, hσ28, hf⟩ := x_bind hf
  refine x_copyL C dX8_copyFrom_28 31 rfl w637 acw ⟨Nat.le_of_ble_eq_true rfl, Nat.le_of_ble_eq_true rfl⟩ hσ28 ?_
  refine x_aload_n C dX8_copyFrom_31 32 rfl 1 rfl rfl ?_
  obtain ⟨v32, hv32, hf⟩ := x_bind hf
  refine x_getR C dX8_copyFrom_32 35 rfl hv32 cl8 rfl w197 ?_
  refine x_iconst C dX8_copyFrom_35 36 rfl 0 (by decide) ?_
  refine x_aload_n C dX8_copyFrom_36 37 rfl 0 rfl rfl ?_
  obtain ⟨v37, hv37, hf⟩ := x_bind hf
  refine x_getR C dX8_copyFrom_37 40 rfl hv37 cl8 rfl w197 ?_
  refine x_iconst C dX8_copyFrom_40 41 rfl 0 (by decide) ?_
  refine x_bipush C dX8_copyFrom_41 43 rfl 12 (by decide) ?_
  obtain ⟨σ43, hσ43, hf⟩ := x_bind hf
  refine x_copyL C dX8_copyFrom_43 46 rfl w637 acw ⟨Nat.le_of_ble_eq_true rfl, Nat.le_of_ble_eq_true rfl⟩ hσ43 ?_
  refine x_aload_n C dX8_copyFrom_46 47 rfl 1 rfl rfl ?_
  obtain ⟨v47, hv47, hf⟩ := x_bind hf
  refine x_getR C dX8_copyFrom_47 50 rfl hv47 cl8 rfl w203 ?_
  refine x_iconst C dX8_copyFrom_50 51 rfl 0 (by decide) ?_
  refine x_aload_n C dX8_copyFrom_51 52 rfl 0 rfl rfl ?_
  obtain ⟨v52, hv52, hf⟩ := x_bind hf
  refine x_getR C dX8_copyFrom_52 55 rfl hv52 cl8 rfl w203 ?_
  refine x_iconst C dX8_copyFrom_55 56 rfl 0 (by decide) ?_
  refine x_iconst C dX8_copyFrom_56 57 rfl 5 (by decide) ?_
  obtain ⟨σ57, hσ57, hf⟩ := x_bind hf
  refine x_copyI C dX8_copyFrom_57 60 rfl w637 acw ⟨Nat.le_of_ble_eq_true rfl, Nat.le_of_ble_eq_true rfl⟩ hσ57 ?_
  refine x_aload_n C dX8_copyFrom_60 61 rfl 1 rfl rfl ?_
  obtain ⟨v61, hv61, hf⟩ := x_bind hf
  refine x_getR C dX8_copyFrom_61 64 rfl hv61 cl8 rfl w206 ?_
  refine x_iconst C dX8_copyFrom_64 65 rfl 0 (by decide) ?_
  refine x_aload_n C dX8_copyFrom_65 66 rfl 0 rfl rfl ?_
  obtain ⟨v66, hv66, hf⟩ := x_bind hf
  refine x_getR C dX8_copyFrom_66 69 rfl hv66 cl8 rfl w206 ?_
  refine x_iconst C dX8_copyFrom_69 70 rfl 0 (by decide) ?_
  refine x_iconst C dX8_copyFrom_70 71 rfl 5 (by decide) ?_
  obtain ⟨σ71, hσ71, hf⟩ := x_bind hf
  refine x_copyI C dX8_copyFrom_71 74 rfl w637 acw ⟨Nat.le_of_ble_eq_true rfl, Nat.le_of_ble_eq_true rfl⟩ hσ71 ?_
  refine x_aload_n C dX8_copyFrom_74 75 rfl 0 rfl rfl ?_
  refine x_dup C dX8_copyFrom_75 76 rfl rfl ?_
  obtain ⟨v76, hv76, hf⟩ := x_bind hf
  refine x_getI C dX8_copyFrom_76 79 rfl hv76 cl8 rfl w209 ?_
  refine x_iconst C dX8_copyFrom_79 80 rfl 1 (by decide) ?_
  refine x_iadd C dX8_copyFrom_80 81 rfl ?_
  obtain ⟨σ81, hσ81, hf⟩ := x_bind hf
  refine x_putX C dX8_copyFrom_81 84 rfl hσ81 cl8 rfl w209 rfl rfl rfl ?_
  exact x_vret C (hE _ (Option.some.inj hf).symm) dX8_copyFrom_84
theorem dX10_length_0 : decode cX10_length 0 = .ok (.lload_n 0, 1) := by decide +kernel
theorem dX10_length_1 : decode cX10_length 1 = .ok (.bipush 48, 2) := by decide +kernel
theorem dX10_length_3 : decode cX10_length 3 = .ok (.lushr, 1) := by decide +kernel
theorem dX10_length_4 : decode cX10_length 4 = .ok (.l2i, 1) := by decide +kernel
theorem dX10_length_5 : decode cX10_length 5 = .ok (.ireturn, 1) := by decide +kernel
abbrev rmX10_length : Room := { frames := 0, cells := 0, slots := 0, locals := 0 }
noncomputable def fX10_length (x0 : Int64) : Option (Int32) :=
some (((x0.toUInt64 >>> ((48 : Int32).toInt64.toUInt64 &&& Int64.toUInt64 63)).toInt64).toInt32)
set_option maxHeartbeats 4000000 in
set_option maxRecDepth 100000 in
theorem cX10_lengthc {l : Launch} {G : xG} {A : Nat → Prop} {σ : St} {x0 : Int64} {c : Int32} (hf : fX10_length x0 = some c) : Con l yX10_length (xws yX10_length cX10_length 2 (some .int)) rmX10_length [.long (x0)] G A σ (some (.int c)) σ := by
  refine x_start rfl (Nat.le_of_ble_eq_true rfl) (fun X _ _ _ C hE0 => ?_)
  have hE : ∀ r, c = r → xE1 X (some (.int r)) σ := fun r e => e ▸ hE0
  show V X (0, 0) σ 0 [(0, .long (x0))] []
  unfold fX10_length at hf
  refine x_lload_n C dX10_length_0 1 rfl 0 rfl rfl ?_
  refine x_bipush C dX10_length_1 3 rfl 48 (by decide) ?_
  refine x_lushr C dX10_length_3 4 rfl ?_
  refine x_l2i C dX10_length_4 5 rfl ?_
  exact x_iret C (hE _ (Option.some.inj hf).symm) dX10_length_5
theorem dX10_letterOf_0 : decode cX10_letterOf 0 = .ok (.iload_n 2, 1) := by decide +kernel
theorem dX10_letterOf_1 : decode cX10_letterOf 1 = .ok (.lload_n 0, 1) := by decide +kernel
theorem dX10_letterOf_2 : decode cX10_letterOf 2 = .ok (.bipush 48, 2) := by decide +kernel
theorem dX10_letterOf_4 : decode cX10_letterOf 4 = .ok (.lushr, 1) := by decide +kernel
theorem dX10_letterOf_5 : decode cX10_letterOf 5 = .ok (.l2i, 1) := by decide +kernel
theorem dX10_letterOf_6 : decode cX10_letterOf 6 = .ok (.if_icmp .lt 7, 3) := by decide +kernel
theorem dX10_letterOf_9 : decode cX10_letterOf 9 = .ok (.iconst (-1), 1) := by decide +kernel
theorem dX10_letterOf_10 : decode cX10_letterOf 10 = .ok (.goto 15, 3) := by decide +kernel
theorem dX10_letterOf_13 : decode cX10_letterOf 13 = .ok (.lload_n 0, 1) := by decide +kernel
theorem dX10_letterOf_14 : decode cX10_letterOf 14 = .ok (.iconst 3, 1) := by decide +kernel
theorem dX10_letterOf_15 : decode cX10_letterOf 15 = .ok (.iload_n 2, 1) := by decide +kernel
theorem dX10_letterOf_16 : decode cX10_letterOf 16 = .ok (.imul, 1) := by decide +kernel
theorem dX10_letterOf_17 : decode cX10_letterOf 17 = .ok (.lushr, 1) := by decide +kernel
theorem dX10_letterOf_18 : decode cX10_letterOf 18 = .ok (.ldc2_w 11, 3) := by decide +kernel
theorem dX10_letterOf_21 : decode cX10_letterOf 21 = .ok (.land, 1) := by decide +kernel
theorem dX10_letterOf_22 : decode cX10_letterOf 22 = .ok (.l2i, 1) := by decide +kernel
theorem dX10_letterOf_23 : decode cX10_letterOf 23 = .ok (.iconst 1, 1) := by decide +kernel
theorem dX10_letterOf_24 : decode cX10_letterOf 24 = .ok (.isub, 1) := by decide +kernel
theorem dX10_letterOf_25 : decode cX10_letterOf 25 = .ok (.ireturn, 1) := by decide +kernel
abbrev rmX10_letterOf : Room := { frames := 0, cells := 0, slots := 0, locals := 0 }
noncomputable def fX10_letterOf (x0 : Int64) (x2 : Int32) : Option (Int32) :=
if x2 < (((x0.toUInt64 >>> ((48 : Int32).toInt64.toUInt64 &&& Int64.toUInt64 63)).toInt64).toInt32) then
(some (((((x0.toUInt64 >>> ((3 * x2).toInt64.toUInt64 &&& Int64.toUInt64 63)).toInt64) &&& 7).toInt32) - 1))
else
(some (-1))
set_option maxHeartbeats 4000000 in
set_option maxRecDepth 100000 in
theorem cX10_letterOfc {l : Launch} {G : xG} {A : Nat → Prop} {σ : St} {x0 : Int64} {x2 : Int32} {c : Int32} (hf : fX10_letterOf x0 x2 = some c) : Con l yX10_letterOf (xws yX10_letterOf cX10_letterOf 3 (some .int)) rmX10_letterOf [.long (x0), .int (x2)] G A σ (some (.int c)) σ := by
  refine x_start rfl (Nat.le_of_ble_eq_true rfl) (fun X _ _ _ C hE0 => ?_)
  have hE : ∀ r, c = r → xE1 X (some (.int r)) σ := fun r e => e ▸ hE0
  show V X (0, 0) σ 0 [(0, .long (x0)), (2, .int (x2))] []
  unfold fX10_letterOf at hf
  refine x_iload_n C dX10_letterOf_0 1 rfl 1 rfl rfl ?_
  refine x_lload_n C dX10_letterOf_1 2 rfl 0 rfl rfl ?_
  refine x_bipush C dX10_letterOf_2 4 rfl 48 (by decide) ?_
  refine x_lushr C dX10_letterOf_4 5 rfl ?_
  refine x_l2i C dX10_letterOf_5 6 rfl ?_
  refine x_icmp_lt C dX10_letterOf_6 13 (by decide) 9 rfl (fun hc => ?_) (fun hc => ?_)
  · have hf := (if_pos hc).symm.trans hf
    refine x_lload_n C dX10_letterOf_13 14 rfl 0 rfl rfl ?_
    refine x_iconst C dX10_letterOf_14 15 rfl 3 (by decide) ?_
    refine x_iload_n C dX10_letterOf_15 16 rfl 1 rfl rfl ?_
    refine x_imul C dX10_letterOf_16 17 rfl ?_
    refine x_lushr C dX10_letterOf_17 18 rfl ?_
    refine x_ldc2 C dX10_letterOf_18 21 rfl w618 ?_
    refine x_land C dX10_letterOf_21 22 rfl ?_
    refine x_l2i C dX10_letterOf_22 23 rfl ?_
    refine x_iconst C dX10_letterOf_23 24 rfl 1 (by decide) ?_
    refine x_isub C dX10_letterOf_24 25 rfl ?_
    exact x_iret C (hE _ (Option.some.inj hf).symm) dX10_letterOf_25
  · have hf := (if_neg hc).symm.trans hf
    refine x_iconst C dX10_letterOf_9 10 rfl (-1) (by decide) ?_
    refine x_goto C dX10_letterOf_10 25 (by decide) ?_
    exact x_iret C (hE _ (Option.some.inj hf).symm) dX10_letterOf_25
theorem dX10_longer_0 : decode cX10_longer 0 = .ok (.lload_n 0, 1) := by decide +kernel
theorem dX10_longer_1 : decode cX10_longer 1 = .ok (.bipush 48, 2) := by decide +kernel
theorem dX10_longer_3 : decode cX10_longer 3 = .ok (.lushr, 1) := by decide +kernel
theorem dX10_longer_4 : decode cX10_longer 4 = .ok (.l2i, 1) := by decide +kernel
theorem dX10_longer_5 : decode cX10_longer 5 = .ok (.istore_n 3, 1) := by decide +kernel
theorem dX10_longer_6 : decode cX10_longer 6 = .ok (.iload_n 3, 1) := by decide +kernel
theorem dX10_longer_7 : decode cX10_longer 7 = .ok (.bipush 16, 2) := by decide +kernel
theorem dX10_longer_9 : decode cX10_longer 9 = .ok (.if_icmp .lt 5, 3) := by decide +kernel
theorem dX10_longer_12 : decode cX10_longer 12 = .ok (.lload_n 0, 1) := by decide +kernel
theorem dX10_longer_13 : decode cX10_longer 13 = .ok (.lreturn, 1) := by decide +kernel
theorem dX10_longer_14 : decode cX10_longer 14 = .ok (.lload_n 0, 1) := by decide +kernel
theorem dX10_longer_15 : decode cX10_longer 15 = .ok (.ldc2_w 13, 3) := by decide +kernel
theorem dX10_longer_18 : decode cX10_longer 18 = .ok (.ladd, 1) := by decide +kernel
theorem dX10_longer_19 : decode cX10_longer 19 = .ok (.iload_n 2, 1) := by decide +kernel
theorem dX10_longer_20 : decode cX10_longer 20 = .ok (.i2l, 1) := by decide +kernel
theorem dX10_longer_21 : decode cX10_longer 21 = .ok (.lconst 1, 1) := by decide +kernel
theorem dX10_longer_22 : decode cX10_longer 22 = .ok (.ladd, 1) := by decide +kernel
theorem dX10_longer_23 : decode cX10_longer 23 = .ok (.iconst 3, 1) := by decide +kernel
theorem dX10_longer_24 : decode cX10_longer 24 = .ok (.iload_n 3, 1) := by decide +kernel
theorem dX10_longer_25 : decode cX10_longer 25 = .ok (.imul, 1) := by decide +kernel
theorem dX10_longer_26 : decode cX10_longer 26 = .ok (.lshl, 1) := by decide +kernel
theorem dX10_longer_27 : decode cX10_longer 27 = .ok (.lor, 1) := by decide +kernel
theorem dX10_longer_28 : decode cX10_longer 28 = .ok (.lreturn, 1) := by decide +kernel
abbrev rmX10_longer : Room := { frames := 0, cells := 0, slots := 0, locals := 0 }
noncomputable def fX10_longer (x0 : Int64) (x2 : Int32) : Option (Int64) :=
xlet (((x0.toUInt64 >>> ((48 : Int32).toInt64.toUInt64 &&& Int64.toUInt64 63)).toInt64).toInt32) fun v5 =>
if v5 < ((16 : Int32)) then
(some ((x0 + 281474976710656) ||| ((x2.toInt64 + 1) <<< ((3 * v5).toInt64 &&& 63))))
else
(some x0)
set_option maxHeartbeats 4000000 in
set_option maxRecDepth 100000 in
theorem cX10_longerc {l : Launch} {G : xG} {A : Nat → Prop} {σ : St} {x0 : Int64} {x2 : Int32} {c : Int64} (hf : fX10_longer x0 x2 = some c) : Con l yX10_longer (xws yX10_longer cX10_longer 4 (some .long)) rmX10_longer [.long (x0), .int (x2)] G A σ (some (.long c)) σ := by
  refine x_start rfl (Nat.le_of_ble_eq_true rfl) (fun X _ _ _ C hE0 => ?_)
  have hE : ∀ r, c = r → xE1 X (some (.long r)) σ := fun r e => e ▸ hE0
  show V X (0, 0) σ 0 [(0, .long (x0)), (2, .int (x2))] []
  unfold fX10_longer at hf
  refine x_lload_n C dX10_longer_0 1 rfl 0 rfl rfl ?_
  refine x_bipush C dX10_longer_1 3 rfl 48 (by decide) ?_
  refine x_lushr C dX10_longer_3 4 rfl ?_
  refine x_l2i C dX10_longer_4 5 rfl ?_
  obtain ⟨v5, ev5, hf⟩ := xlet_some hf
  refine x_topi ev5 ?_
  refine x_istore_n C dX10_longer_5 6 rfl rfl rfl [(3, .int (v5)), (0, .long (x0)), (2, .int (x2))] rfl ?_
  refine x_iload_n C dX10_longer_6 7 rfl 0 rfl rfl ?_
  refine x_bipush C dX10_longer_7 9 rfl 16 (by decide) ?_
  refine x_icmp_lt C dX10_longer_9 14 (by decide) 12 rfl (fun hc => ?_) (fun hc => ?_)
  · have hf := (if_pos hc).symm.trans hf
    refine x_lload_n C dX10_longer_14 15 rfl 1 rfl rfl ?_
    refine x_ldc2 C dX10_longer_15 18 rfl w946 ?_
    refine x_ladd C dX10_longer_18 19 rfl ?_
    refine x_iload_n C dX10_longer_19 20 rfl 2 rfl rfl ?_
    refine x_i2l C dX10_longer_20 21 rfl ?_
    refine x_lconst C dX10_longer_21 22 rfl 1 (by decide) ?_
    refine x_ladd C dX10_longer_22 23 rfl ?_
    refine x_iconst C dX10_longer_23 24 rfl 3 (by decide) ?_
    refine x_iload_n C dX10_longer_24 25 rfl 0 rfl rfl ?_
    refine x_imul C dX10_longer_25 26 rfl ?_
    refine x_lshl C dX10_longer_26 27 rfl ?_
    refine x_lor C dX10_longer_27 28 rfl ?_
    exact x_lret C (hE _ (Option.some.inj hf).symm) dX10_longer_28
  · have hf := (if_neg hc).symm.trans hf
    refine x_lload_n C dX10_longer_12 13 rfl 1 rfl rfl ?_
    exact x_lret C (hE _ (Option.some.inj hf).symm) dX10_longer_13
theorem dX10_backwards_0 : decode cX10_backwards 0 = .ok (.lconst 0, 1) := by decide +kernel
theorem dX10_backwards_1 : decode cX10_backwards 1 = .ok (.lstore_n 2, 1) := by decide +kernel
theorem dX10_backwards_2 : decode cX10_backwards 2 = .ok (.lload_n 0, 1) := by decide +kernel
theorem dX10_backwards_3 : decode cX10_backwards 3 = .ok (.invokestatic 17, 3) := by decide +kernel
theorem dX10_backwards_6 : decode cX10_backwards 6 = .ok (.iconst 1, 1) := by decide +kernel
theorem dX10_backwards_7 : decode cX10_backwards 7 = .ok (.isub, 1) := by decide +kernel
theorem dX10_backwards_8 : decode cX10_backwards 8 = .ok (.istore 4, 2) := by decide +kernel
theorem dX10_backwards_10 : decode cX10_backwards 10 = .ok (.iload 4, 2) := by decide +kernel
theorem dX10_backwards_12 : decode cX10_backwards 12 = .ok (.ifCond .lt 20, 3) := by decide +kernel
theorem dX10_backwards_15 : decode cX10_backwards 15 = .ok (.lload_n 2, 1) := by decide +kernel
theorem dX10_backwards_16 : decode cX10_backwards 16 = .ok (.lload_n 0, 1) := by decide +kernel
theorem dX10_backwards_17 : decode cX10_backwards 17 = .ok (.iload 4, 2) := by decide +kernel
theorem dX10_backwards_19 : decode cX10_backwards 19 = .ok (.invokestatic 21, 3) := by decide +kernel
theorem dX10_backwards_22 : decode cX10_backwards 22 = .ok (.invokestatic 25, 3) := by decide +kernel
theorem dX10_backwards_25 : decode cX10_backwards 25 = .ok (.lstore_n 2, 1) := by decide +kernel
theorem dX10_backwards_26 : decode cX10_backwards 26 = .ok (.iinc 4 (-1), 3) := by decide +kernel
theorem dX10_backwards_29 : decode cX10_backwards 29 = .ok (.goto (-19), 3) := by decide +kernel
theorem dX10_backwards_32 : decode cX10_backwards 32 = .ok (.lload_n 2, 1) := by decide +kernel
theorem dX10_backwards_33 : decode cX10_backwards 33 = .ok (.lreturn, 1) := by decide +kernel
abbrev rmX10_backwards : Room := { frames := 1, cells := 0, slots := 0, locals := 23 }
noncomputable def fLX10_backwards_10 (x0 : Int64) (a : Int64 × Int32) : Option ((Int64 × Int32) ⊕ (Int64)) :=
if a.2 < 0 then
(some (Sum.inr a.1))
else
((fX10_letterOf x0 a.2).bind fun w19 =>
(fX10_longer a.1 w19).bind fun w22 =>
xlet (a.2 + (-1)) fun v26 =>
some (Sum.inl (w22, v26)))
set_option maxHeartbeats 4000000 in
set_option maxRecDepth 100000 in
theorem lpX10_backwards_10 {X : xX} {σ : St} {x0 : Int64}  {a0 : Int64 × Int32} {b : Int64} (C : Ok X cX10_backwards 5 RX10 rmX10_backwards (some .long)) (hb : iterP (fLX10_backwards_10 x0) a0 = some b) (hy0 : ∀ s, b = s → V X (0, 0) σ 32 [(2, .long (s))] []) : V X (0, 0) σ 10 [(0, .long (x0)), (2, .long (a0.1)), (4, .int (a0.2))] [] := by
  obtain ⟨n, hn⟩ := iterP_some hb
  refine x_loop (P := fun a => V X (0, 0) σ 10 [(0, .long (x0)), (2, .long (a.1)), (4, .int (a.2))] []) ?_ n a0 hn
  intro a c hf hK hxx
  have hx0 : ∀ s, c = Sum.inr s → V X (0, 0) σ 32 [(2, .long (s))] [] := fun s e => hy0 s (hxx _ e).symm
  unfold fLX10_backwards_10 at hf
  refine x_iload C dX10_backwards_10 12 rfl 2 rfl ?_
  refine x_if_lt C dX10_backwards_12 32 (by decide) 15 rfl (fun hc => ?_) (fun hc => ?_)
  · have hf := (if_pos hc).symm.trans hf
    refine x_lv [1] (lv' := [(2, .long (a.1))]) rfl ?_
    exact hx0 _ (Option.some.inj hf).symm
  · have hf := (if_neg hc).symm.trans hf
    refine x_lload_n C dX10_backwards_15 16 rfl 1 rfl rfl ?_
    refine x_lload_n C dX10_backwards_16 17 rfl 0 rfl rfl ?_
    refine x_iload C dX10_backwards_17 19 rfl 2 rfl ?_
    obtain ⟨w19, hw19, hf⟩ := x_bind hf
    refine x_callSi C dX10_backwards_19 22 rfl (cX10_letterOfc hw19) kX10_letterOf ksX10_letterOf w722 ⟨rfl, rfl⟩ ⟨Nat.le_of_ble_eq_true rfl, Nat.le_of_ble_eq_true rfl⟩ ⟨Nat.zero_le _, Nat.zero_le _⟩ rfl rfl (Nat.le_of_ble_eq_true rfl) ?_
    obtain ⟨w22, hw22, hf⟩ := x_bind hf
    refine x_callSl C dX10_backwards_22 25 rfl (cX10_longerc hw22) kX10_longer ksX10_longer w1361 ⟨rfl, rfl⟩ ⟨Nat.le_of_ble_eq_true rfl, Nat.le_of_ble_eq_true rfl⟩ ⟨Nat.zero_le _, Nat.zero_le _⟩ rfl rfl (Nat.le_of_ble_eq_true rfl) ?_
    refine x_lstore_n C dX10_backwards_25 26 rfl rfl rfl [(2, .long (w22)), (0, .long (x0)), (4, .int (a.2))] rfl ?_
    obtain ⟨v26, ev26, hf⟩ := xlet_some hf
    refine x_iinc C dX10_backwards_26 29 rfl 2 rfl v26 ev26 rfl [(4, .int (v26)), (2, .long (w22)), (0, .long (x0))] rfl ?_
    refine x_goto C dX10_backwards_29 10 (by decide) ?_
    refine x_lv [2, 1, 0] (lv' := [(0, .long (x0)), (2, .long (w22)), (4, .int (v26))]) rfl ?_
    exact hK _ (Option.some.inj hf).symm
noncomputable def fX10_backwards (x0 : Int64) : Option (Int64) :=
(fX10_length x0).bind fun w3 =>
xlet (w3 - 1) fun v8 =>
(iterP (fLX10_backwards_10 x0) (0, v8)).bind fun b10 =>
some b10
set_option maxHeartbeats 4000000 in
set_option maxRecDepth 100000 in
theorem cX10_backwardsc {l : Launch} {G : xG} {A : Nat → Prop} {σ : St} {x0 : Int64} {c : Int64} (hf : fX10_backwards x0 = some c) : Con l yX10_backwards (xws yX10_backwards cX10_backwards 5 (some .long)) rmX10_backwards [.long (x0)] G A σ (some (.long c)) σ := by
  refine x_start rfl (Nat.le_of_ble_eq_true rfl) (fun X _ _ _ C hE0 => ?_)
  have hE : ∀ r, c = r → xE1 X (some (.long r)) σ := fun r e => e ▸ hE0
  show V X (0, 0) σ 0 [(0, .long (x0))] []
  unfold fX10_backwards at hf
  refine x_lconst C dX10_backwards_0 1 rfl 0 (by decide) ?_
  refine x_lstore_n C dX10_backwards_1 2 rfl rfl rfl [(2, .long (0)), (0, .long (x0))] rfl ?_
  refine x_lload_n C dX10_backwards_2 3 rfl 1 rfl rfl ?_
  obtain ⟨w3, hw3, hf⟩ := x_bind hf
  refine x_callSi C dX10_backwards_3 6 rfl (cX10_lengthc hw3) kX10_length ksX10_length w653 ⟨rfl, rfl⟩ ⟨Nat.le_of_ble_eq_true rfl, Nat.le_of_ble_eq_true rfl⟩ ⟨Nat.zero_le _, Nat.zero_le _⟩ rfl rfl (Nat.le_of_ble_eq_true rfl) ?_
  refine x_iconst C dX10_backwards_6 7 rfl 1 (by decide) ?_
  refine x_isub C dX10_backwards_7 8 rfl ?_
  obtain ⟨v8, ev8, hf⟩ := xlet_some hf
  refine x_topi ev8 ?_
  refine x_istore C dX10_backwards_8 10 rfl rfl [(4, .int (v8)), (2, .long (0)), (0, .long (x0))] rfl ?_
  obtain ⟨b10, hb10, hf⟩ := x_bind hf
  refine x_lv [2, 1, 0] (lv' := [(0, .long (x0)), (2, .long (0)), (4, .int (v8))]) rfl ?_
  refine lpX10_backwards_10 C hb10 (fun s10 e10 => ?_)
  subst e10
  refine x_lload_n C dX10_backwards_32 33 rfl 0 rfl rfl ?_
  exact x_lret C (hE _ (Option.some.inj hf).symm) dX10_backwards_33
theorem dX10_fits_0 : decode cX10_fits 0 = .ok (.lload_n 3, 1) := by decide +kernel
theorem dX10_fits_1 : decode cX10_fits 1 = .ok (.bipush 48, 2) := by decide +kernel
theorem dX10_fits_3 : decode cX10_fits 3 = .ok (.lushr, 1) := by decide +kernel
theorem dX10_fits_4 : decode cX10_fits 4 = .ok (.l2i, 1) := by decide +kernel
theorem dX10_fits_5 : decode cX10_fits 5 = .ok (.istore 7, 2) := by decide +kernel
theorem dX10_fits_7 : decode cX10_fits 7 = .ok (.lconst 1, 1) := by decide +kernel
theorem dX10_fits_8 : decode cX10_fits 8 = .ok (.iconst 3, 1) := by decide +kernel
theorem dX10_fits_9 : decode cX10_fits 9 = .ok (.iload 7, 2) := by decide +kernel
theorem dX10_fits_11 : decode cX10_fits 11 = .ok (.imul, 1) := by decide +kernel
theorem dX10_fits_12 : decode cX10_fits 12 = .ok (.lshl, 1) := by decide +kernel
theorem dX10_fits_13 : decode cX10_fits 13 = .ok (.lconst 1, 1) := by decide +kernel
theorem dX10_fits_14 : decode cX10_fits 14 = .ok (.lsub, 1) := by decide +kernel
theorem dX10_fits_15 : decode cX10_fits 15 = .ok (.lstore 8, 2) := by decide +kernel
theorem dX10_fits_17 : decode cX10_fits 17 = .ok (.lload_n 0, 1) := by decide +kernel
theorem dX10_fits_18 : decode cX10_fits 18 = .ok (.ldc2_w 15, 3) := by decide +kernel
theorem dX10_fits_21 : decode cX10_fits 21 = .ok (.land, 1) := by decide +kernel
theorem dX10_fits_22 : decode cX10_fits 22 = .ok (.iconst 3, 1) := by decide +kernel
theorem dX10_fits_23 : decode cX10_fits 23 = .ok (.iload_n 2, 1) := by decide +kernel
theorem dX10_fits_24 : decode cX10_fits 24 = .ok (.imul, 1) := by decide +kernel
theorem dX10_fits_25 : decode cX10_fits 25 = .ok (.lushr, 1) := by decide +kernel
theorem dX10_fits_26 : decode cX10_fits 26 = .ok (.lload 8, 2) := by decide +kernel
theorem dX10_fits_28 : decode cX10_fits 28 = .ok (.land, 1) := by decide +kernel
theorem dX10_fits_29 : decode cX10_fits 29 = .ok (.lload_n 3, 1) := by decide +kernel
theorem dX10_fits_30 : decode cX10_fits 30 = .ok (.ldc2_w 15, 3) := by decide +kernel
theorem dX10_fits_33 : decode cX10_fits 33 = .ok (.land, 1) := by decide +kernel
theorem dX10_fits_34 : decode cX10_fits 34 = .ok (.lcmp, 1) := by decide +kernel
theorem dX10_fits_35 : decode cX10_fits 35 = .ok (.ifCond .ne 27, 3) := by decide +kernel
theorem dX10_fits_38 : decode cX10_fits 38 = .ok (.lload_n 0, 1) := by decide +kernel
theorem dX10_fits_39 : decode cX10_fits 39 = .ok (.bipush 48, 2) := by decide +kernel
theorem dX10_fits_41 : decode cX10_fits 41 = .ok (.lushr, 1) := by decide +kernel
theorem dX10_fits_42 : decode cX10_fits 42 = .ok (.l2i, 1) := by decide +kernel
theorem dX10_fits_43 : decode cX10_fits 43 = .ok (.iload 7, 2) := by decide +kernel
theorem dX10_fits_45 : decode cX10_fits 45 = .ok (.isub, 1) := by decide +kernel
theorem dX10_fits_46 : decode cX10_fits 46 = .ok (.lload 5, 2) := by decide +kernel
theorem dX10_fits_48 : decode cX10_fits 48 = .ok (.bipush 48, 2) := by decide +kernel
theorem dX10_fits_50 : decode cX10_fits 50 = .ok (.lushr, 1) := by decide +kernel
theorem dX10_fits_51 : decode cX10_fits 51 = .ok (.l2i, 1) := by decide +kernel
theorem dX10_fits_52 : decode cX10_fits 52 = .ok (.iadd, 1) := by decide +kernel
theorem dX10_fits_53 : decode cX10_fits 53 = .ok (.bipush 16, 2) := by decide +kernel
theorem dX10_fits_55 : decode cX10_fits 55 = .ok (.if_icmp .gt 7, 3) := by decide +kernel
theorem dX10_fits_58 : decode cX10_fits 58 = .ok (.iconst 1, 1) := by decide +kernel
theorem dX10_fits_59 : decode cX10_fits 59 = .ok (.goto 4, 3) := by decide +kernel
theorem dX10_fits_62 : decode cX10_fits 62 = .ok (.iconst 0, 1) := by decide +kernel
theorem dX10_fits_63 : decode cX10_fits 63 = .ok (.ireturn, 1) := by decide +kernel
abbrev rmX10_fits : Room := { frames := 0, cells := 0, slots := 0, locals := 0 }
noncomputable def fX10_fits (x0 : Int64) (x2 : Int32) (x3 : Int64) (x5 : Int64) : Option (Int32) :=
xlet (((x3.toUInt64 >>> ((48 : Int32).toInt64.toUInt64 &&& Int64.toUInt64 63)).toInt64).toInt32) fun v5 =>
xlet ((1 <<< ((3 * v5).toInt64 &&& 63)) - 1) fun v15 =>
if (lg_cmp ((((x0 &&& 281474976710655).toUInt64 >>> ((3 * x2).toInt64.toUInt64 &&& Int64.toUInt64 63)).toInt64) &&& v15) (x3 &&& 281474976710655)) = 0 then
(if ((16 : Int32)) < (((((x0.toUInt64 >>> ((48 : Int32).toInt64.toUInt64 &&& Int64.toUInt64 63)).toInt64).toInt32) - v5) + (((x5.toUInt64 >>> ((48 : Int32).toInt64.toUInt64 &&& Int64.toUInt64 63)).toInt64).toInt32)) then
(some 0)
else
(some 1))
else
(some 0)
set_option maxHeartbeats 4000000 in
set_option maxRecDepth 100000 in
theorem cX10_fitsc {l : Launch} {G : xG} {A : Nat → Prop} {σ : St} {x0 : Int64} {x2 : Int32} {x3 : Int64} {x5 : Int64} {c : Int32} (hf : fX10_fits x0 x2 x3 x5 = some c) : Con l yX10_fits (xws yX10_fits cX10_fits 10 (some .boolean)) rmX10_fits [.long (x0), .int (x2), .long (x3), .long (x5)] G A σ (some (.int c)) σ := by
  refine x_start rfl (Nat.le_of_ble_eq_true rfl) (fun X _ _ _ C hE0 => ?_)
  have hE : ∀ r, c = r → xE1 X (some (.int r)) σ := fun r e => e ▸ hE0
  show V X (0, 0) σ 0 [(0, .long (x0)), (2, .int (x2)), (3, .long (x3)), (5, .long (x5))] []
  unfold fX10_fits at hf
  refine x_lload_n C dX10_fits_0 1 rfl 2 rfl rfl ?_
  refine x_bipush C dX10_fits_1 3 rfl 48 (by decide) ?_
  refine x_lushr C dX10_fits_3 4 rfl ?_
  refine x_l2i C dX10_fits_4 5 rfl ?_
  obtain ⟨v5, ev5, hf⟩ := xlet_some hf
  refine x_topi ev5 ?_
  refine x_istore C dX10_fits_5 7 rfl rfl [(7, .int (v5)), (0, .long (x0)), (2, .int (x2)), (3, .long (x3)), (5, .long (x5))] rfl ?_
  refine x_lconst C dX10_fits_7 8 rfl 1 (by decide) ?_
  refine x_iconst C dX10_fits_8 9 rfl 3 (by decide) ?_
  refine x_iload C dX10_fits_9 11 rfl 0 rfl ?_
  refine x_imul C dX10_fits_11 12 rfl ?_
  refine x_lshl C dX10_fits_12 13 rfl ?_
  refine x_lconst C dX10_fits_13 14 rfl 1 (by decide) ?_
  refine x_lsub C dX10_fits_14 15 rfl ?_
  obtain ⟨v15, ev15, hf⟩ := xlet_some hf
  refine x_topl ev15 ?_
  refine x_lstore C dX10_fits_15 17 rfl rfl [(8, .long (v15)), (7, .int (v5)), (0, .long (x0)), (2, .int (x2)), (3, .long (x3)), (5, .long (x5))] rfl ?_
  refine x_lload_n C dX10_fits_17 18 rfl 2 rfl rfl ?_
  refine x_ldc2 C dX10_fits_18 21 rfl w657 ?_
  refine x_land C dX10_fits_21 22 rfl ?_
  refine x_iconst C dX10_fits_22 23 rfl 3 (by decide) ?_
  refine x_iload_n C dX10_fits_23 24 rfl 3 rfl rfl ?_
  refine x_imul C dX10_fits_24 25 rfl ?_
  refine x_lushr C dX10_fits_25 26 rfl ?_
  refine x_lload C dX10_fits_26 28 rfl 0 rfl ?_
  refine x_land C dX10_fits_28 29 rfl ?_
  refine x_lload_n C dX10_fits_29 30 rfl 4 rfl rfl ?_
  refine x_ldc2 C dX10_fits_30 33 rfl w657 ?_
  refine x_land C dX10_fits_33 34 rfl ?_
  refine x_lcmp C dX10_fits_34 35 rfl ?_
  refine x_if_ne C dX10_fits_35 62 (by decide) 38 rfl (fun hc => ?_) (fun hc => ?_)
  · have hf := (if_neg hc).symm.trans hf
    refine x_iconst C dX10_fits_62 63 rfl 0 (by decide) ?_
    exact x_zret C rfl (hE _ (Option.some.inj hf).symm) dX10_fits_63
  · have hf := (if_pos hc).symm.trans hf
    refine x_lload_n C dX10_fits_38 39 rfl 2 rfl rfl ?_
    refine x_bipush C dX10_fits_39 41 rfl 48 (by decide) ?_
    refine x_lushr C dX10_fits_41 42 rfl ?_
    refine x_l2i C dX10_fits_42 43 rfl ?_
    refine x_iload C dX10_fits_43 45 rfl 1 rfl ?_
    refine x_isub C dX10_fits_45 46 rfl ?_
    refine x_lload C dX10_fits_46 48 rfl 5 rfl ?_
    refine x_bipush C dX10_fits_48 50 rfl 48 (by decide) ?_
    refine x_lushr C dX10_fits_50 51 rfl ?_
    refine x_l2i C dX10_fits_51 52 rfl ?_
    refine x_iadd C dX10_fits_52 53 rfl ?_
    refine x_bipush C dX10_fits_53 55 rfl 16 (by decide) ?_
    refine x_icmp_gt C dX10_fits_55 62 (by decide) 58 rfl (fun hc => ?_) (fun hc => ?_)
    · have hf := (if_pos hc).symm.trans hf
      refine x_iconst C dX10_fits_62 63 rfl 0 (by decide) ?_
      exact x_zret C rfl (hE _ (Option.some.inj hf).symm) dX10_fits_63
    · have hf := (if_neg hc).symm.trans hf
      refine x_iconst C dX10_fits_58 59 rfl 1 (by decide) ?_
      refine x_goto C dX10_fits_59 63 (by decide) ?_
      exact x_zret C rfl (hE _ (Option.some.inj hf).symm) dX10_fits_63
theorem dX10_standsAt_0 : decode cX10_standsAt 0 = .ok (.lconst 1, 1) := by decide +kernel
theorem dX10_standsAt_1 : decode cX10_standsAt 1 = .ok (.iconst 3, 1) := by decide +kernel
theorem dX10_standsAt_2 : decode cX10_standsAt 2 = .ok (.lload_n 3, 1) := by decide +kernel
theorem dX10_standsAt_3 : decode cX10_standsAt 3 = .ok (.bipush 48, 2) := by decide +kernel
theorem dX10_standsAt_5 : decode cX10_standsAt 5 = .ok (.lushr, 1) := by decide +kernel
theorem dX10_standsAt_6 : decode cX10_standsAt 6 = .ok (.l2i, 1) := by decide +kernel
theorem dX10_standsAt_7 : decode cX10_standsAt 7 = .ok (.imul, 1) := by decide +kernel
theorem dX10_standsAt_8 : decode cX10_standsAt 8 = .ok (.lshl, 1) := by decide +kernel
theorem dX10_standsAt_9 : decode cX10_standsAt 9 = .ok (.lconst 1, 1) := by decide +kernel
theorem dX10_standsAt_10 : decode cX10_standsAt 10 = .ok (.lsub, 1) := by decide +kernel
theorem dX10_standsAt_11 : decode cX10_standsAt 11 = .ok (.lstore 5, 2) := by decide +kernel
theorem dX10_standsAt_13 : decode cX10_standsAt 13 = .ok (.lload_n 0, 1) := by decide +kernel
theorem dX10_standsAt_14 : decode cX10_standsAt 14 = .ok (.ldc2_w 15, 3) := by decide +kernel
theorem dX10_standsAt_17 : decode cX10_standsAt 17 = .ok (.land, 1) := by decide +kernel
theorem dX10_standsAt_18 : decode cX10_standsAt 18 = .ok (.iconst 3, 1) := by decide +kernel
theorem dX10_standsAt_19 : decode cX10_standsAt 19 = .ok (.iload_n 2, 1) := by decide +kernel
theorem dX10_standsAt_20 : decode cX10_standsAt 20 = .ok (.imul, 1) := by decide +kernel
theorem dX10_standsAt_21 : decode cX10_standsAt 21 = .ok (.lushr, 1) := by decide +kernel
theorem dX10_standsAt_22 : decode cX10_standsAt 22 = .ok (.lload 5, 2) := by decide +kernel
theorem dX10_standsAt_24 : decode cX10_standsAt 24 = .ok (.land, 1) := by decide +kernel
theorem dX10_standsAt_25 : decode cX10_standsAt 25 = .ok (.lload_n 3, 1) := by decide +kernel
theorem dX10_standsAt_26 : decode cX10_standsAt 26 = .ok (.ldc2_w 15, 3) := by decide +kernel
theorem dX10_standsAt_29 : decode cX10_standsAt 29 = .ok (.land, 1) := by decide +kernel
theorem dX10_standsAt_30 : decode cX10_standsAt 30 = .ok (.lcmp, 1) := by decide +kernel
theorem dX10_standsAt_31 : decode cX10_standsAt 31 = .ok (.ifCond .ne 7, 3) := by decide +kernel
theorem dX10_standsAt_34 : decode cX10_standsAt 34 = .ok (.iconst 1, 1) := by decide +kernel
theorem dX10_standsAt_35 : decode cX10_standsAt 35 = .ok (.goto 4, 3) := by decide +kernel
theorem dX10_standsAt_38 : decode cX10_standsAt 38 = .ok (.iconst 0, 1) := by decide +kernel
theorem dX10_standsAt_39 : decode cX10_standsAt 39 = .ok (.ireturn, 1) := by decide +kernel
abbrev rmX10_standsAt : Room := { frames := 0, cells := 0, slots := 0, locals := 0 }
noncomputable def fX10_standsAt (x0 : Int64) (x2 : Int32) (x3 : Int64) : Option (Int32) :=
xlet ((1 <<< ((3 * (((x3.toUInt64 >>> ((48 : Int32).toInt64.toUInt64 &&& Int64.toUInt64 63)).toInt64).toInt32)).toInt64 &&& 63)) - 1) fun v11 =>
if (lg_cmp ((((x0 &&& 281474976710655).toUInt64 >>> ((3 * x2).toInt64.toUInt64 &&& Int64.toUInt64 63)).toInt64) &&& v11) (x3 &&& 281474976710655)) = 0 then
(some 1)
else
(some 0)
set_option maxHeartbeats 4000000 in
set_option maxRecDepth 100000 in
theorem cX10_standsAtc {l : Launch} {G : xG} {A : Nat → Prop} {σ : St} {x0 : Int64} {x2 : Int32} {x3 : Int64} {c : Int32} (hf : fX10_standsAt x0 x2 x3 = some c) : Con l yX10_standsAt (xws yX10_standsAt cX10_standsAt 7 (some .boolean)) rmX10_standsAt [.long (x0), .int (x2), .long (x3)] G A σ (some (.int c)) σ := by
  refine x_start rfl (Nat.le_of_ble_eq_true rfl) (fun X _ _ _ C hE0 => ?_)
  have hE : ∀ r, c = r → xE1 X (some (.int r)) σ := fun r e => e ▸ hE0
  show V X (0, 0) σ 0 [(0, .long (x0)), (2, .int (x2)), (3, .long (x3))] []
  unfold fX10_standsAt at hf
  refine x_lconst C dX10_standsAt_0 1 rfl 1 (by decide) ?_
  refine x_iconst C dX10_standsAt_1 2 rfl 3 (by decide) ?_
  refine x_lload_n C dX10_standsAt_2 3 rfl 2 rfl rfl ?_
  refine x_bipush C dX10_standsAt_3 5 rfl 48 (by decide) ?_
  refine x_lushr C dX10_standsAt_5 6 rfl ?_
  refine x_l2i C dX10_standsAt_6 7 rfl ?_
  refine x_imul C dX10_standsAt_7 8 rfl ?_
  refine x_lshl C dX10_standsAt_8 9 rfl ?_
  refine x_lconst C dX10_standsAt_9 10 rfl 1 (by decide) ?_
  refine x_lsub C dX10_standsAt_10 11 rfl ?_
  obtain ⟨v11, ev11, hf⟩ := xlet_some hf
  refine x_topl ev11 ?_
  refine x_lstore C dX10_standsAt_11 13 rfl rfl [(5, .long (v11)), (0, .long (x0)), (2, .int (x2)), (3, .long (x3))] rfl ?_
  refine x_lload_n C dX10_standsAt_13 14 rfl 1 rfl rfl ?_
  refine x_ldc2 C dX10_standsAt_14 17 rfl w657 ?_
  refine x_land C dX10_standsAt_17 18 rfl ?_
  refine x_iconst C dX10_standsAt_18 19 rfl 3 (by decide) ?_
  refine x_iload_n C dX10_standsAt_19 20 rfl 2 rfl rfl ?_
  refine x_imul C dX10_standsAt_20 21 rfl ?_
  refine x_lushr C dX10_standsAt_21 22 rfl ?_
  refine x_lload C dX10_standsAt_22 24 rfl 0 rfl ?_
  refine x_land C dX10_standsAt_24 25 rfl ?_
  refine x_lload_n C dX10_standsAt_25 26 rfl 3 rfl rfl ?_
  refine x_ldc2 C dX10_standsAt_26 29 rfl w657 ?_
  refine x_land C dX10_standsAt_29 30 rfl ?_
  refine x_lcmp C dX10_standsAt_30 31 rfl ?_
  refine x_if_ne C dX10_standsAt_31 38 (by decide) 34 rfl (fun hc => ?_) (fun hc => ?_)
  · have hf := (if_neg hc).symm.trans hf
    refine x_iconst C dX10_standsAt_38 39 rfl 0 (by decide) ?_
    exact x_zret C rfl (hE _ (Option.some.inj hf).symm) dX10_standsAt_39
  · have hf := (if_pos hc).symm.trans hf
    refine x_iconst C dX10_standsAt_34 35 rfl 1 (by decide) ?_
    refine x_goto C dX10_standsAt_35 39 (by decide) ?_
    exact x_zret C rfl (hE _ (Option.some.inj hf).symm) dX10_standsAt_39
theorem dX10_holds_0 : decode cX10_holds 0 = .ok (.iconst 0, 1) := by decide +kernel
theorem dX10_holds_1 : decode cX10_holds 1 = .ok (.istore 4, 2) := by decide +kernel
theorem dX10_holds_3 : decode cX10_holds 3 = .ok (.iload 4, 2) := by decide +kernel
theorem dX10_holds_5 : decode cX10_holds 5 = .ok (.lload_n 0, 1) := by decide +kernel
theorem dX10_holds_6 : decode cX10_holds 6 = .ok (.invokestatic 17, 3) := by decide +kernel
theorem dX10_holds_9 : decode cX10_holds 9 = .ok (.if_icmp .ge 21, 3) := by decide +kernel
theorem dX10_holds_12 : decode cX10_holds 12 = .ok (.lload_n 0, 1) := by decide +kernel
theorem dX10_holds_13 : decode cX10_holds 13 = .ok (.iload 4, 2) := by decide +kernel
theorem dX10_holds_15 : decode cX10_holds 15 = .ok (.lload_n 2, 1) := by decide +kernel
theorem dX10_holds_16 : decode cX10_holds 16 = .ok (.invokestatic 29, 3) := by decide +kernel
theorem dX10_holds_19 : decode cX10_holds 19 = .ok (.ifCond .eq 5, 3) := by decide +kernel
theorem dX10_holds_22 : decode cX10_holds 22 = .ok (.iconst 1, 1) := by decide +kernel
theorem dX10_holds_23 : decode cX10_holds 23 = .ok (.ireturn, 1) := by decide +kernel
theorem dX10_holds_24 : decode cX10_holds 24 = .ok (.iinc 4 1, 3) := by decide +kernel
theorem dX10_holds_27 : decode cX10_holds 27 = .ok (.goto (-24), 3) := by decide +kernel
theorem dX10_holds_30 : decode cX10_holds 30 = .ok (.iconst 0, 1) := by decide +kernel
theorem dX10_holds_31 : decode cX10_holds 31 = .ok (.ireturn, 1) := by decide +kernel
abbrev rmX10_holds : Room := { frames := 1, cells := 0, slots := 0, locals := 26 }
noncomputable def fLX10_holds_3 (x0 : Int64) (x2 : Int64) (a : Int32) : Option ((Int32) ⊕ ((Unit) ⊕ (Unit))) :=
(fX10_length x0).bind fun w6 =>
if w6 ≤ a then
(some (Sum.inr (Sum.inr ())))
else
((fX10_standsAt x0 a x2).bind fun w16 =>
if w16 = 0 then
(xlet (a + 1) fun v24 =>
some (Sum.inl v24))
else
(some (Sum.inr (Sum.inl ()))))
set_option maxHeartbeats 4000000 in
set_option maxRecDepth 100000 in
theorem lpX10_holds_3 {X : xX} {σ : St} {x0 : Int64} {x2 : Int64}  {a0 : Int32} {b : (Unit) ⊕ (Unit)} (C : Ok X cX10_holds 5 RX10 rmX10_holds (some .boolean)) (hb : iterP (fLX10_holds_3 x0 x2) a0 = some b) (hy0 : ∀ s, b = (Sum.inl s) → V X (0, 0) σ 22 [] []) (hy1 : ∀ s, b = (Sum.inr s) → V X (0, 0) σ 30 [] []) : V X (0, 0) σ 3 [(0, .long (x0)), (2, .long (x2)), (4, .int (a0))] [] := by
  obtain ⟨n, hn⟩ := iterP_some hb
  refine x_loop (P := fun a => V X (0, 0) σ 3 [(0, .long (x0)), (2, .long (x2)), (4, .int (a))] []) ?_ n a0 hn
  intro a c hf hK hxx
  have hx0 : ∀ s, c = Sum.inr (Sum.inl s) → V X (0, 0) σ 22 [] [] := fun s e => hy0 s (hxx _ e).symm
  have hx1 : ∀ s, c = Sum.inr (Sum.inr s) → V X (0, 0) σ 30 [] [] := fun s e => hy1 s (hxx _ e).symm
  unfold fLX10_holds_3 at hf
  refine x_iload C dX10_holds_3 5 rfl 2 rfl ?_
  refine x_lload_n C dX10_holds_5 6 rfl 0 rfl rfl ?_
  obtain ⟨w6, hw6, hf⟩ := x_bind hf
  refine x_callSi C dX10_holds_6 9 rfl (cX10_lengthc hw6) kX10_length ksX10_length w653 ⟨rfl, rfl⟩ ⟨Nat.le_of_ble_eq_true rfl, Nat.le_of_ble_eq_true rfl⟩ ⟨Nat.zero_le _, Nat.zero_le _⟩ rfl rfl (Nat.le_of_ble_eq_true rfl) ?_
  refine x_icmp_ge C dX10_holds_9 30 (by decide) 12 rfl (fun hc => ?_) (fun hc => ?_)
  · have hf := (if_pos hc).symm.trans hf
    refine x_lv [] (lv' := []) rfl ?_
    exact hx1 _ (Option.some.inj hf).symm
  · have hf := (if_neg hc).symm.trans hf
    refine x_lload_n C dX10_holds_12 13 rfl 0 rfl rfl ?_
    refine x_iload C dX10_holds_13 15 rfl 2 rfl ?_
    refine x_lload_n C dX10_holds_15 16 rfl 1 rfl rfl ?_
    obtain ⟨w16, hw16, hf⟩ := x_bind hf
    refine x_callSi C dX10_holds_16 19 rfl (cX10_standsAtc hw16) kX10_standsAt ksX10_standsAt w654 ⟨rfl, rfl⟩ ⟨Nat.le_of_ble_eq_true rfl, Nat.le_of_ble_eq_true rfl⟩ ⟨Nat.zero_le _, Nat.zero_le _⟩ rfl rfl (Nat.le_of_ble_eq_true rfl) ?_
    refine x_if_eq C dX10_holds_19 24 (by decide) 22 rfl (fun hc => ?_) (fun hc => ?_)
    · have hf := (if_pos hc).symm.trans hf
      obtain ⟨v24, ev24, hf⟩ := xlet_some hf
      refine x_iinc C dX10_holds_24 27 rfl 2 rfl v24 ev24 rfl [(4, .int (v24)), (0, .long (x0)), (2, .long (x2))] rfl ?_
      refine x_goto C dX10_holds_27 3 (by decide) ?_
      refine x_lv [1, 2, 0] (lv' := [(0, .long (x0)), (2, .long (x2)), (4, .int (v24))]) rfl ?_
      exact hK _ (Option.some.inj hf).symm
    · have hf := (if_neg hc).symm.trans hf
      refine x_lv [] (lv' := []) rfl ?_
      exact hx0 _ (Option.some.inj hf).symm
noncomputable def fX10_holds (x0 : Int64) (x2 : Int64) : Option (Int32) :=
(iterP (fLX10_holds_3 x0 x2) 0).bind fun b3 =>
(match b3 with
| .inl s3 =>
some 1
| .inr s3 =>
some 0)
set_option maxHeartbeats 4000000 in
set_option maxRecDepth 100000 in
theorem cX10_holdsc {l : Launch} {G : xG} {A : Nat → Prop} {σ : St} {x0 : Int64} {x2 : Int64} {c : Int32} (hf : fX10_holds x0 x2 = some c) : Con l yX10_holds (xws yX10_holds cX10_holds 5 (some .boolean)) rmX10_holds [.long (x0), .long (x2)] G A σ (some (.int c)) σ := by
  refine x_start rfl (Nat.le_of_ble_eq_true rfl) (fun X _ _ _ C hE0 => ?_)
  have hE : ∀ r, c = r → xE1 X (some (.int r)) σ := fun r e => e ▸ hE0
  show V X (0, 0) σ 0 [(0, .long (x0)), (2, .long (x2))] []
  unfold fX10_holds at hf
  refine x_iconst C dX10_holds_0 1 rfl 0 (by decide) ?_
  refine x_istore C dX10_holds_1 3 rfl rfl [(4, .int (0)), (0, .long (x0)), (2, .long (x2))] rfl ?_
  obtain ⟨b3, hb3, hf⟩ := x_bind hf
  refine x_lv [1, 2, 0] (lv' := [(0, .long (x0)), (2, .long (x2)), (4, .int (0))]) rfl ?_
  refine lpX10_holds_3 C hb3 (fun s3 e3 => ?_) (fun s3 e3 => ?_)
  · subst e3
    try dsimp only at hf
    refine x_iconst C dX10_holds_22 23 rfl 1 (by decide) ?_
    exact x_zret C rfl (hE _ (Option.some.inj hf).symm) dX10_holds_23
  · subst e3
    try dsimp only at hf
    refine x_iconst C dX10_holds_30 31 rfl 0 (by decide) ?_
    exact x_zret C rfl (hE _ (Option.some.inj hf).symm) dX10_holds_31
theorem dX10_replaced_0 : decode cX10_replaced 0 = .ok (.lload_n 3, 1) := by decide +kernel
theorem dX10_replaced_1 : decode cX10_replaced 1 = .ok (.bipush 48, 2) := by decide +kernel
theorem dX10_replaced_3 : decode cX10_replaced 3 = .ok (.lushr, 1) := by decide +kernel
theorem dX10_replaced_4 : decode cX10_replaced 4 = .ok (.l2i, 1) := by decide +kernel
theorem dX10_replaced_5 : decode cX10_replaced 5 = .ok (.istore 7, 2) := by decide +kernel
theorem dX10_replaced_7 : decode cX10_replaced 7 = .ok (.lload 5, 2) := by decide +kernel
theorem dX10_replaced_9 : decode cX10_replaced 9 = .ok (.bipush 48, 2) := by decide +kernel
theorem dX10_replaced_11 : decode cX10_replaced 11 = .ok (.lushr, 1) := by decide +kernel
theorem dX10_replaced_12 : decode cX10_replaced 12 = .ok (.l2i, 1) := by decide +kernel
theorem dX10_replaced_13 : decode cX10_replaced 13 = .ok (.istore 8, 2) := by decide +kernel
theorem dX10_replaced_15 : decode cX10_replaced 15 = .ok (.lload_n 0, 1) := by decide +kernel
theorem dX10_replaced_16 : decode cX10_replaced 16 = .ok (.ldc2_w 15, 3) := by decide +kernel
theorem dX10_replaced_19 : decode cX10_replaced 19 = .ok (.land, 1) := by decide +kernel
theorem dX10_replaced_20 : decode cX10_replaced 20 = .ok (.lstore 9, 2) := by decide +kernel
theorem dX10_replaced_22 : decode cX10_replaced 22 = .ok (.lload 9, 2) := by decide +kernel
theorem dX10_replaced_24 : decode cX10_replaced 24 = .ok (.lconst 1, 1) := by decide +kernel
theorem dX10_replaced_25 : decode cX10_replaced 25 = .ok (.iconst 3, 1) := by decide +kernel
theorem dX10_replaced_26 : decode cX10_replaced 26 = .ok (.iload_n 2, 1) := by decide +kernel
theorem dX10_replaced_27 : decode cX10_replaced 27 = .ok (.imul, 1) := by decide +kernel
theorem dX10_replaced_28 : decode cX10_replaced 28 = .ok (.lshl, 1) := by decide +kernel
theorem dX10_replaced_29 : decode cX10_replaced 29 = .ok (.lconst 1, 1) := by decide +kernel
theorem dX10_replaced_30 : decode cX10_replaced 30 = .ok (.lsub, 1) := by decide +kernel
theorem dX10_replaced_31 : decode cX10_replaced 31 = .ok (.land, 1) := by decide +kernel
theorem dX10_replaced_32 : decode cX10_replaced 32 = .ok (.lstore 11, 2) := by decide +kernel
theorem dX10_replaced_34 : decode cX10_replaced 34 = .ok (.lload 9, 2) := by decide +kernel
theorem dX10_replaced_36 : decode cX10_replaced 36 = .ok (.iconst 3, 1) := by decide +kernel
theorem dX10_replaced_37 : decode cX10_replaced 37 = .ok (.iload_n 2, 1) := by decide +kernel
theorem dX10_replaced_38 : decode cX10_replaced 38 = .ok (.iload 7, 2) := by decide +kernel
theorem dX10_replaced_40 : decode cX10_replaced 40 = .ok (.iadd, 1) := by decide +kernel
theorem dX10_replaced_41 : decode cX10_replaced 41 = .ok (.imul, 1) := by decide +kernel
theorem dX10_replaced_42 : decode cX10_replaced 42 = .ok (.lushr, 1) := by decide +kernel
theorem dX10_replaced_43 : decode cX10_replaced 43 = .ok (.lstore 13, 2) := by decide +kernel
theorem dX10_replaced_45 : decode cX10_replaced 45 = .ok (.lload_n 0, 1) := by decide +kernel
theorem dX10_replaced_46 : decode cX10_replaced 46 = .ok (.bipush 48, 2) := by decide +kernel
theorem dX10_replaced_48 : decode cX10_replaced 48 = .ok (.lushr, 1) := by decide +kernel
theorem dX10_replaced_49 : decode cX10_replaced 49 = .ok (.iload 7, 2) := by decide +kernel
theorem dX10_replaced_51 : decode cX10_replaced 51 = .ok (.i2l, 1) := by decide +kernel
theorem dX10_replaced_52 : decode cX10_replaced 52 = .ok (.lsub, 1) := by decide +kernel
theorem dX10_replaced_53 : decode cX10_replaced 53 = .ok (.iload 8, 2) := by decide +kernel
theorem dX10_replaced_55 : decode cX10_replaced 55 = .ok (.i2l, 1) := by decide +kernel
theorem dX10_replaced_56 : decode cX10_replaced 56 = .ok (.ladd, 1) := by decide +kernel
theorem dX10_replaced_57 : decode cX10_replaced 57 = .ok (.lstore 15, 2) := by decide +kernel
theorem dX10_replaced_59 : decode cX10_replaced 59 = .ok (.lload 11, 2) := by decide +kernel
theorem dX10_replaced_61 : decode cX10_replaced 61 = .ok (.lload 5, 2) := by decide +kernel
theorem dX10_replaced_63 : decode cX10_replaced 63 = .ok (.ldc2_w 15, 3) := by decide +kernel
theorem dX10_replaced_66 : decode cX10_replaced 66 = .ok (.land, 1) := by decide +kernel
theorem dX10_replaced_67 : decode cX10_replaced 67 = .ok (.iconst 3, 1) := by decide +kernel
theorem dX10_replaced_68 : decode cX10_replaced 68 = .ok (.iload_n 2, 1) := by decide +kernel
theorem dX10_replaced_69 : decode cX10_replaced 69 = .ok (.imul, 1) := by decide +kernel
theorem dX10_replaced_70 : decode cX10_replaced 70 = .ok (.lshl, 1) := by decide +kernel
theorem dX10_replaced_71 : decode cX10_replaced 71 = .ok (.lor, 1) := by decide +kernel
theorem dX10_replaced_72 : decode cX10_replaced 72 = .ok (.lload 13, 2) := by decide +kernel
theorem dX10_replaced_74 : decode cX10_replaced 74 = .ok (.iconst 3, 1) := by decide +kernel
theorem dX10_replaced_75 : decode cX10_replaced 75 = .ok (.iload_n 2, 1) := by decide +kernel
theorem dX10_replaced_76 : decode cX10_replaced 76 = .ok (.iload 8, 2) := by decide +kernel
theorem dX10_replaced_78 : decode cX10_replaced 78 = .ok (.iadd, 1) := by decide +kernel
theorem dX10_replaced_79 : decode cX10_replaced 79 = .ok (.imul, 1) := by decide +kernel
theorem dX10_replaced_80 : decode cX10_replaced 80 = .ok (.lshl, 1) := by decide +kernel
theorem dX10_replaced_81 : decode cX10_replaced 81 = .ok (.lor, 1) := by decide +kernel
theorem dX10_replaced_82 : decode cX10_replaced 82 = .ok (.lload 15, 2) := by decide +kernel
theorem dX10_replaced_84 : decode cX10_replaced 84 = .ok (.bipush 48, 2) := by decide +kernel
theorem dX10_replaced_86 : decode cX10_replaced 86 = .ok (.lshl, 1) := by decide +kernel
theorem dX10_replaced_87 : decode cX10_replaced 87 = .ok (.lor, 1) := by decide +kernel
theorem dX10_replaced_88 : decode cX10_replaced 88 = .ok (.lreturn, 1) := by decide +kernel
abbrev rmX10_replaced : Room := { frames := 0, cells := 0, slots := 0, locals := 0 }
noncomputable def fX10_replaced (x0 : Int64) (x2 : Int32) (x3 : Int64) (x5 : Int64) : Option (Int64) :=
xlet (((x3.toUInt64 >>> ((48 : Int32).toInt64.toUInt64 &&& Int64.toUInt64 63)).toInt64).toInt32) fun v5 =>
xlet (((x5.toUInt64 >>> ((48 : Int32).toInt64.toUInt64 &&& Int64.toUInt64 63)).toInt64).toInt32) fun v13 =>
xlet (x0 &&& 281474976710655) fun v20 =>
xlet (v20 &&& ((1 <<< ((3 * x2).toInt64 &&& 63)) - 1)) fun v32 =>
xlet ((v20.toUInt64 >>> ((3 * (x2 + v5)).toInt64.toUInt64 &&& Int64.toUInt64 63)).toInt64) fun v43 =>
xlet ((((x0.toUInt64 >>> ((48 : Int32).toInt64.toUInt64 &&& Int64.toUInt64 63)).toInt64) - v5.toInt64) + v13.toInt64) fun v57 =>
some (((v32 ||| ((x5 &&& 281474976710655) <<< ((3 * x2).toInt64 &&& 63))) ||| (v43 <<< ((3 * (x2 + v13)).toInt64 &&& 63))) ||| (v57 <<< ((48 : Int32).toInt64 &&& 63)))
set_option maxHeartbeats 4000000 in
set_option maxRecDepth 100000 in
theorem cX10_replacedc {l : Launch} {G : xG} {A : Nat → Prop} {σ : St} {x0 : Int64} {x2 : Int32} {x3 : Int64} {x5 : Int64} {c : Int64} (hf : fX10_replaced x0 x2 x3 x5 = some c) : Con l yX10_replaced (xws yX10_replaced cX10_replaced 17 (some .long)) rmX10_replaced [.long (x0), .int (x2), .long (x3), .long (x5)] G A σ (some (.long c)) σ := by
  refine x_start rfl (Nat.le_of_ble_eq_true rfl) (fun X _ _ _ C hE0 => ?_)
  have hE : ∀ r, c = r → xE1 X (some (.long r)) σ := fun r e => e ▸ hE0
  show V X (0, 0) σ 0 [(0, .long (x0)), (2, .int (x2)), (3, .long (x3)), (5, .long (x5))] []
  unfold fX10_replaced at hf
  refine x_lload_n C dX10_replaced_0 1 rfl 2 rfl rfl ?_
  refine x_bipush C dX10_replaced_1 3 rfl 48 (by decide) ?_
  refine x_lushr C dX10_replaced_3 4 rfl ?_
  refine x_l2i C dX10_replaced_4 5 rfl ?_
  obtain ⟨v5, ev5, hf⟩ := xlet_some hf
  refine x_topi ev5 ?_
  refine x_istore C dX10_replaced_5 7 rfl rfl [(7, .int (v5)), (0, .long (x0)), (2, .int (x2)), (3, .long (x3)), (5, .long (x5))] rfl ?_
  refine x_lload C dX10_replaced_7 9 rfl 4 rfl ?_
  refine x_bipush C dX10_replaced_9 11 rfl 48 (by decide) ?_
  refine x_lushr C dX10_replaced_11 12 rfl ?_
  refine x_l2i C dX10_replaced_12 13 rfl ?_
  obtain ⟨v13, ev13, hf⟩ := xlet_some hf
  refine x_topi ev13 ?_
  refine x_istore C dX10_replaced_13 15 rfl rfl [(8, .int (v13)), (7, .int (v5)), (0, .long (x0)), (2, .int (x2)), (3, .long (x3)), (5, .long (x5))] rfl ?_
  refine x_lload_n C dX10_replaced_15 16 rfl 2 rfl rfl ?_
  refine x_ldc2 C dX10_replaced_16 19 rfl w657 ?_
  refine x_land C dX10_replaced_19 20 rfl ?_
  obtain ⟨v20, ev20, hf⟩ := xlet_some hf
  refine x_topl ev20 ?_
  refine x_lstore C dX10_replaced_20 22 rfl rfl [(9, .long (v20)), (8, .int (v13)), (7, .int (v5)), (0, .long (x0)), (2, .int (x2)), (3, .long (x3)), (5, .long (x5))] rfl ?_
  refine x_lload C dX10_replaced_22 24 rfl 0 rfl ?_
  refine x_lconst C dX10_replaced_24 25 rfl 1 (by decide) ?_
  refine x_iconst C dX10_replaced_25 26 rfl 3 (by decide) ?_
  refine x_iload_n C dX10_replaced_26 27 rfl 4 rfl rfl ?_
  refine x_imul C dX10_replaced_27 28 rfl ?_
  refine x_lshl C dX10_replaced_28 29 rfl ?_
  refine x_lconst C dX10_replaced_29 30 rfl 1 (by decide) ?_
  refine x_lsub C dX10_replaced_30 31 rfl ?_
  refine x_land C dX10_replaced_31 32 rfl ?_
  obtain ⟨v32, ev32, hf⟩ := xlet_some hf
  refine x_topl ev32 ?_
  refine x_lstore C dX10_replaced_32 34 rfl rfl [(11, .long (v32)), (9, .long (v20)), (8, .int (v13)), (7, .int (v5)), (0, .long (x0)), (2, .int (x2)), (3, .long (x3)), (5, .long (x5))] rfl ?_
  refine x_lload C dX10_replaced_34 36 rfl 1 rfl ?_
  refine x_iconst C dX10_replaced_36 37 rfl 3 (by decide) ?_
  refine x_iload_n C dX10_replaced_37 38 rfl 5 rfl rfl ?_
  refine x_iload C dX10_replaced_38 40 rfl 3 rfl ?_
  refine x_iadd C dX10_replaced_40 41 rfl ?_
  refine x_imul C dX10_replaced_41 42 rfl ?_
  refine x_lushr C dX10_replaced_42 43 rfl ?_
  obtain ⟨v43, ev43, hf⟩ := xlet_some hf
  refine x_topl ev43 ?_
  refine x_lstore C dX10_replaced_43 45 rfl rfl [(13, .long (v43)), (11, .long (v32)), (9, .long (v20)), (8, .int (v13)), (7, .int (v5)), (0, .long (x0)), (2, .int (x2)), (3, .long (x3)), (5, .long (x5))] rfl ?_
  refine x_lload_n C dX10_replaced_45 46 rfl 5 rfl rfl ?_
  refine x_bipush C dX10_replaced_46 48 rfl 48 (by decide) ?_
  refine x_lushr C dX10_replaced_48 49 rfl ?_
  refine x_iload C dX10_replaced_49 51 rfl 4 rfl ?_
  refine x_i2l C dX10_replaced_51 52 rfl ?_
  refine x_lsub C dX10_replaced_52 53 rfl ?_
  refine x_iload C dX10_replaced_53 55 rfl 3 rfl ?_
  refine x_i2l C dX10_replaced_55 56 rfl ?_
  refine x_ladd C dX10_replaced_56 57 rfl ?_
  obtain ⟨v57, ev57, hf⟩ := xlet_some hf
  refine x_topl ev57 ?_
  refine x_lstore C dX10_replaced_57 59 rfl rfl [(15, .long (v57)), (13, .long (v43)), (11, .long (v32)), (9, .long (v20)), (8, .int (v13)), (7, .int (v5)), (0, .long (x0)), (2, .int (x2)), (3, .long (x3)), (5, .long (x5))] rfl ?_
  refine x_lload C dX10_replaced_59 61 rfl 2 rfl ?_
  refine x_lload C dX10_replaced_61 63 rfl 9 rfl ?_
  refine x_ldc2 C dX10_replaced_63 66 rfl w657 ?_
  refine x_land C dX10_replaced_66 67 rfl ?_
  refine x_iconst C dX10_replaced_67 68 rfl 3 (by decide) ?_
  refine x_iload_n C dX10_replaced_68 69 rfl 7 rfl rfl ?_
  refine x_imul C dX10_replaced_69 70 rfl ?_
  refine x_lshl C dX10_replaced_70 71 rfl ?_
  refine x_lor C dX10_replaced_71 72 rfl ?_
  refine x_lload C dX10_replaced_72 74 rfl 1 rfl ?_
  refine x_iconst C dX10_replaced_74 75 rfl 3 (by decide) ?_
  refine x_iload_n C dX10_replaced_75 76 rfl 7 rfl rfl ?_
  refine x_iload C dX10_replaced_76 78 rfl 4 rfl ?_
  refine x_iadd C dX10_replaced_78 79 rfl ?_
  refine x_imul C dX10_replaced_79 80 rfl ?_
  refine x_lshl C dX10_replaced_80 81 rfl ?_
  refine x_lor C dX10_replaced_81 82 rfl ?_
  refine x_lload C dX10_replaced_82 84 rfl 0 rfl ?_
  refine x_bipush C dX10_replaced_84 86 rfl 48 (by decide) ?_
  refine x_lshl C dX10_replaced_86 87 rfl ?_
  refine x_lor C dX10_replaced_87 88 rfl ?_
  exact x_lret C (hE _ (Option.some.inj hf).symm) dX10_replaced_88
theorem dX8_weighBy_0 : decode cX8_weighBy 0 = .ok (.iconst 0, 1) := by decide +kernel
theorem dX8_weighBy_1 : decode cX8_weighBy 1 = .ok (.istore_n 3, 1) := by decide +kernel
theorem dX8_weighBy_2 : decode cX8_weighBy 2 = .ok (.iconst 0, 1) := by decide +kernel
theorem dX8_weighBy_3 : decode cX8_weighBy 3 = .ok (.istore 4, 2) := by decide +kernel
theorem dX8_weighBy_5 : decode cX8_weighBy 5 = .ok (.iload 4, 2) := by decide +kernel
theorem dX8_weighBy_7 : decode cX8_weighBy 7 = .ok (.lload_n 1, 1) := by decide +kernel
theorem dX8_weighBy_8 : decode cX8_weighBy 8 = .ok (.invokestatic 55, 3) := by decide +kernel
theorem dX8_weighBy_11 : decode cX8_weighBy 11 = .ok (.if_icmp .ge 20, 3) := by decide +kernel
theorem dX8_weighBy_14 : decode cX8_weighBy 14 = .ok (.iload_n 3, 1) := by decide +kernel
theorem dX8_weighBy_15 : decode cX8_weighBy 15 = .ok (.aload_n 0, 1) := by decide +kernel
theorem dX8_weighBy_16 : decode cX8_weighBy 16 = .ok (.lload_n 1, 1) := by decide +kernel
theorem dX8_weighBy_17 : decode cX8_weighBy 17 = .ok (.iload 4, 2) := by decide +kernel
theorem dX8_weighBy_19 : decode cX8_weighBy 19 = .ok (.invokestatic 61, 3) := by decide +kernel
theorem dX8_weighBy_22 : decode cX8_weighBy 22 = .ok (.iaload, 1) := by decide +kernel
theorem dX8_weighBy_23 : decode cX8_weighBy 23 = .ok (.iadd, 1) := by decide +kernel
theorem dX8_weighBy_24 : decode cX8_weighBy 24 = .ok (.istore_n 3, 1) := by decide +kernel
theorem dX8_weighBy_25 : decode cX8_weighBy 25 = .ok (.iinc 4 1, 3) := by decide +kernel
theorem dX8_weighBy_28 : decode cX8_weighBy 28 = .ok (.goto (-23), 3) := by decide +kernel
theorem dX8_weighBy_31 : decode cX8_weighBy 31 = .ok (.iload_n 3, 1) := by decide +kernel
theorem dX8_weighBy_32 : decode cX8_weighBy 32 = .ok (.ireturn, 1) := by decide +kernel
abbrev rmX8_weighBy : Room := { frames := 1, cells := 0, slots := 0, locals := 22 }
noncomputable def fLX8_weighBy_5 (σ : St) (x0 : Nat) (x1 : Int64) (a : Int32 × Int32) : Option ((Int32 × Int32) ⊕ (Int32)) :=
(fX10_length x1).bind fun w8 =>
if w8 ≤ a.2 then
(some (Sum.inr a.1))
else
((fX10_letterOf x1 a.2).bind fun w19 =>
(aI σ x0 0 w19).bind fun v22 =>
xlet (a.1 + v22) fun v24 =>
xlet (a.2 + 1) fun v25 =>
some (Sum.inl (v24, v25)))
set_option maxHeartbeats 4000000 in
set_option maxRecDepth 100000 in
theorem lpX8_weighBy_5 {X : xX} {σ : St} {x0 : Nat} {x1 : Int64}  {a0 : Int32 × Int32} {b : Int32} (C : Ok X cX8_weighBy 5 RX8 rmX8_weighBy (some .int)) (hb : iterP (fLX8_weighBy_5 σ x0 x1) a0 = some b) (hy0 : ∀ s, b = s → V X (0, 0) σ 31 [(3, .int (s))] []) : V X (0, 0) σ 5 [(0, .ref (x0)), (1, .long (x1)), (3, .int (a0.1)), (4, .int (a0.2))] [] := by
  obtain ⟨n, hn⟩ := iterP_some hb
  refine x_loop (P := fun a => V X (0, 0) σ 5 [(0, .ref (x0)), (1, .long (x1)), (3, .int (a.1)), (4, .int (a.2))] []) ?_ n a0 hn
  intro a c hf hK hxx
  have hx0 : ∀ s, c = Sum.inr s → V X (0, 0) σ 31 [(3, .int (s))] [] := fun s e => hy0 s (hxx _ e).symm
  unfold fLX8_weighBy_5 at hf
  refine x_iload C dX8_weighBy_5 7 rfl 3 rfl ?_
  refine x_lload_n C dX8_weighBy_7 8 rfl 1 rfl rfl ?_
  obtain ⟨w8, hw8, hf⟩ := x_bind hf
  refine x_callSi C dX8_weighBy_8 11 rfl (cX10_lengthc hw8) kX10_length ksX10_length w612 ⟨rfl, rfl⟩ ⟨Nat.le_of_ble_eq_true rfl, Nat.le_of_ble_eq_true rfl⟩ ⟨Nat.zero_le _, Nat.zero_le _⟩ rfl rfl (Nat.le_of_ble_eq_true rfl) ?_
  refine x_icmp_ge C dX8_weighBy_11 31 (by decide) 14 rfl (fun hc => ?_) (fun hc => ?_)
  · have hf := (if_pos hc).symm.trans hf
    refine x_lv [2] (lv' := [(3, .int (a.1))]) rfl ?_
    exact hx0 _ (Option.some.inj hf).symm
  · have hf := (if_neg hc).symm.trans hf
    refine x_iload_n C dX8_weighBy_14 15 rfl 2 rfl rfl ?_
    refine x_aload_n C dX8_weighBy_15 16 rfl 0 rfl rfl ?_
    refine x_lload_n C dX8_weighBy_16 17 rfl 1 rfl rfl ?_
    refine x_iload C dX8_weighBy_17 19 rfl 3 rfl ?_
    obtain ⟨w19, hw19, hf⟩ := x_bind hf
    refine x_callSi C dX8_weighBy_19 22 rfl (cX10_letterOfc hw19) kX10_letterOf ksX10_letterOf w615 ⟨rfl, rfl⟩ ⟨Nat.le_of_ble_eq_true rfl, Nat.le_of_ble_eq_true rfl⟩ ⟨Nat.zero_le _, Nat.zero_le _⟩ rfl rfl (Nat.le_of_ble_eq_true rfl) ?_
    obtain ⟨v22, hv22, hf⟩ := x_bind hf
    refine x_iaload C dX8_weighBy_22 23 rfl hv22 ?_
    refine x_iadd C dX8_weighBy_23 24 rfl ?_
    obtain ⟨v24, ev24, hf⟩ := xlet_some hf
    refine x_topi ev24 ?_
    refine x_istore_n C dX8_weighBy_24 25 rfl rfl rfl [(3, .int (v24)), (0, .ref (x0)), (1, .long (x1)), (4, .int (a.2))] rfl ?_
    obtain ⟨v25, ev25, hf⟩ := xlet_some hf
    refine x_iinc C dX8_weighBy_25 28 rfl 3 rfl v25 ev25 rfl [(4, .int (v25)), (3, .int (v24)), (0, .ref (x0)), (1, .long (x1))] rfl ?_
    refine x_goto C dX8_weighBy_28 5 (by decide) ?_
    refine x_lv [2, 3, 1, 0] (lv' := [(0, .ref (x0)), (1, .long (x1)), (3, .int (v24)), (4, .int (v25))]) rfl ?_
    exact hK _ (Option.some.inj hf).symm
noncomputable def fX8_weighBy (σ : St) (x0 : Nat) (x1 : Int64) : Option (Int32) :=
(iterP (fLX8_weighBy_5 σ x0 x1) (0, 0)).bind fun b5 =>
some b5
set_option maxHeartbeats 4000000 in
set_option maxRecDepth 100000 in
theorem cX8_weighByc {l : Launch} {G : xG} {A : Nat → Prop} {σ : St} {x0 : Nat} {x1 : Int64} {c : Int32} (hf : fX8_weighBy σ x0 x1 = some c) : Con l yX8_weighBy (xws yX8_weighBy cX8_weighBy 5 (some .int)) rmX8_weighBy [.ref (x0), .long (x1)] G A σ (some (.int c)) σ := by
  refine x_start rfl (Nat.le_of_ble_eq_true rfl) (fun X _ _ _ C hE0 => ?_)
  have hE : ∀ r, c = r → xE1 X (some (.int r)) σ := fun r e => e ▸ hE0
  show V X (0, 0) σ 0 [(0, .ref (x0)), (1, .long (x1))] []
  unfold fX8_weighBy at hf
  refine x_iconst C dX8_weighBy_0 1 rfl 0 (by decide) ?_
  refine x_istore_n C dX8_weighBy_1 2 rfl rfl rfl [(3, .int (0)), (0, .ref (x0)), (1, .long (x1))] rfl ?_
  refine x_iconst C dX8_weighBy_2 3 rfl 0 (by decide) ?_
  refine x_istore C dX8_weighBy_3 5 rfl rfl [(4, .int (0)), (3, .int (0)), (0, .ref (x0)), (1, .long (x1))] rfl ?_
  obtain ⟨b5, hb5, hf⟩ := x_bind hf
  refine x_lv [2, 3, 1, 0] (lv' := [(0, .ref (x0)), (1, .long (x1)), (3, .int (0)), (4, .int (0))]) rfl ?_
  refine lpX8_weighBy_5 C hb5 (fun s5 e5 => ?_)
  subst e5
  refine x_iload_n C dX8_weighBy_31 32 rfl 0 rfl rfl ?_
  exact x_iret C (hE _ (Option.some.inj hf).symm) dX8_weighBy_32
theorem dX8_weigh_0 : decode cX8_weigh 0 = .ok (.aload_n 0, 1) := by decide +kernel
theorem dX8_weigh_1 : decode cX8_weigh 1 = .ok (.getfield 25, 3) := by decide +kernel
theorem dX8_weigh_4 : decode cX8_weigh 4 = .ok (.lload_n 1, 1) := by decide +kernel
theorem dX8_weigh_5 : decode cX8_weigh 5 = .ok (.invokestatic 51, 3) := by decide +kernel
theorem dX8_weigh_8 : decode cX8_weigh 8 = .ok (.ireturn, 1) := by decide +kernel
abbrev rmX8_weigh : Room := { frames := 2, cells := 0, slots := 0, locals := 46 }
noncomputable def fX8_weigh (σ : St) (x0 : Nat) (x1 : Int64) : Option (Int32) :=
(gR σ x0 8 4).bind fun v1 =>
(fX8_weighBy σ v1 x1).bind fun w5 =>
some w5
set_option maxHeartbeats 4000000 in
set_option maxRecDepth 100000 in
theorem cX8_weighc {l : Launch} {G : xG} {A : Nat → Prop} {σ : St} {x0 : Nat} {x1 : Int64} {c : Int32} (hf : fX8_weigh σ x0 x1 = some c) : Con l yX8_weigh (xws yX8_weigh cX8_weigh 3 (some .int)) rmX8_weigh [.ref (x0), .long (x1)] G A σ (some (.int c)) σ := by
  refine x_start rfl (Nat.le_of_ble_eq_true rfl) (fun X _ _ _ C hE0 => ?_)
  have hE : ∀ r, c = r → xE1 X (some (.int r)) σ := fun r e => e ▸ hE0
  show V X (0, 0) σ 0 [(0, .ref (x0)), (1, .long (x1))] []
  unfold fX8_weigh at hf
  refine x_aload_n C dX8_weigh_0 1 rfl 0 rfl rfl ?_
  obtain ⟨v1, hv1, hf⟩ := x_bind hf
  refine x_getR C dX8_weigh_1 4 rfl hv1 cl8 rfl w203 ?_
  refine x_lload_n C dX8_weigh_4 5 rfl 1 rfl rfl ?_
  obtain ⟨w5, hw5, hf⟩ := x_bind hf
  refine x_callSi C dX8_weigh_5 8 rfl (cX8_weighByc hw5) kX8_weighBy ksX8_weighBy w609 ⟨rfl, rfl⟩ ⟨Nat.le_of_ble_eq_true rfl, Nat.le_of_ble_eq_true rfl⟩ ⟨Nat.zero_le _, Nat.zero_le _⟩ rfl rfl (Nat.le_of_ble_eq_true rfl) ?_
  exact x_iret C (hE _ (Option.some.inj hf).symm) dX8_weigh_8
theorem dX8_order_0 : decode cX8_order 0 = .ok (.aload_n 0, 1) := by decide +kernel
theorem dX8_order_1 : decode cX8_order 1 = .ok (.lload_n 1, 1) := by decide +kernel
theorem dX8_order_2 : decode cX8_order 2 = .ok (.invokevirtual 65, 3) := by decide +kernel
theorem dX8_order_5 : decode cX8_order 5 = .ok (.aload_n 0, 1) := by decide +kernel
theorem dX8_order_6 : decode cX8_order 6 = .ok (.lload_n 3, 1) := by decide +kernel
theorem dX8_order_7 : decode cX8_order 7 = .ok (.invokevirtual 65, 3) := by decide +kernel
theorem dX8_order_10 : decode cX8_order 10 = .ok (.invokestatic 68, 3) := by decide +kernel
theorem dX8_order_13 : decode cX8_order 13 = .ok (.istore 5, 2) := by decide +kernel
theorem dX8_order_15 : decode cX8_order 15 = .ok (.iload 5, 2) := by decide +kernel
theorem dX8_order_17 : decode cX8_order 17 = .ok (.ifCond .eq 6, 3) := by decide +kernel
theorem dX8_order_20 : decode cX8_order 20 = .ok (.iload 5, 2) := by decide +kernel
theorem dX8_order_22 : decode cX8_order 22 = .ok (.ireturn, 1) := by decide +kernel
theorem dX8_order_23 : decode cX8_order 23 = .ok (.lload_n 1, 1) := by decide +kernel
theorem dX8_order_24 : decode cX8_order 24 = .ok (.invokestatic 55, 3) := by decide +kernel
theorem dX8_order_27 : decode cX8_order 27 = .ok (.lload_n 3, 1) := by decide +kernel
theorem dX8_order_28 : decode cX8_order 28 = .ok (.invokestatic 55, 3) := by decide +kernel
theorem dX8_order_31 : decode cX8_order 31 = .ok (.invokestatic 74, 3) := by decide +kernel
theorem dX8_order_34 : decode cX8_order 34 = .ok (.istore 6, 2) := by decide +kernel
theorem dX8_order_36 : decode cX8_order 36 = .ok (.iconst 0, 1) := by decide +kernel
theorem dX8_order_37 : decode cX8_order 37 = .ok (.istore 7, 2) := by decide +kernel
theorem dX8_order_39 : decode cX8_order 39 = .ok (.iload 7, 2) := by decide +kernel
theorem dX8_order_41 : decode cX8_order 41 = .ok (.iload 6, 2) := by decide +kernel
theorem dX8_order_43 : decode cX8_order 43 = .ok (.if_icmp .ge 55, 3) := by decide +kernel
theorem dX8_order_46 : decode cX8_order 46 = .ok (.lload_n 1, 1) := by decide +kernel
theorem dX8_order_47 : decode cX8_order 47 = .ok (.iload 7, 2) := by decide +kernel
theorem dX8_order_49 : decode cX8_order 49 = .ok (.invokestatic 61, 3) := by decide +kernel
theorem dX8_order_52 : decode cX8_order 52 = .ok (.istore 8, 2) := by decide +kernel
theorem dX8_order_54 : decode cX8_order 54 = .ok (.lload_n 3, 1) := by decide +kernel
theorem dX8_order_55 : decode cX8_order 55 = .ok (.iload 7, 2) := by decide +kernel
theorem dX8_order_57 : decode cX8_order 57 = .ok (.invokestatic 61, 3) := by decide +kernel
theorem dX8_order_60 : decode cX8_order 60 = .ok (.istore 9, 2) := by decide +kernel
theorem dX8_order_62 : decode cX8_order 62 = .ok (.iload 8, 2) := by decide +kernel
theorem dX8_order_64 : decode cX8_order 64 = .ok (.iload 9, 2) := by decide +kernel
theorem dX8_order_66 : decode cX8_order 66 = .ok (.if_icmp .eq 26, 3) := by decide +kernel
theorem dX8_order_69 : decode cX8_order 69 = .ok (.aload_n 0, 1) := by decide +kernel
theorem dX8_order_70 : decode cX8_order 70 = .ok (.getfield 29, 3) := by decide +kernel
theorem dX8_order_73 : decode cX8_order 73 = .ok (.iload 8, 2) := by decide +kernel
theorem dX8_order_75 : decode cX8_order 75 = .ok (.iaload, 1) := by decide +kernel
theorem dX8_order_76 : decode cX8_order 76 = .ok (.aload_n 0, 1) := by decide +kernel
theorem dX8_order_77 : decode cX8_order 77 = .ok (.getfield 29, 3) := by decide +kernel
theorem dX8_order_80 : decode cX8_order 80 = .ok (.iload 9, 2) := by decide +kernel
theorem dX8_order_82 : decode cX8_order 82 = .ok (.iaload, 1) := by decide +kernel
theorem dX8_order_83 : decode cX8_order 83 = .ok (.if_icmp .le 7, 3) := by decide +kernel
theorem dX8_order_86 : decode cX8_order 86 = .ok (.iconst 1, 1) := by decide +kernel
theorem dX8_order_87 : decode cX8_order 87 = .ok (.goto 4, 3) := by decide +kernel
theorem dX8_order_90 : decode cX8_order 90 = .ok (.iconst (-1), 1) := by decide +kernel
theorem dX8_order_91 : decode cX8_order 91 = .ok (.ireturn, 1) := by decide +kernel
theorem dX8_order_92 : decode cX8_order 92 = .ok (.iinc 7 1, 3) := by decide +kernel
theorem dX8_order_95 : decode cX8_order 95 = .ok (.goto (-56), 3) := by decide +kernel
theorem dX8_order_98 : decode cX8_order 98 = .ok (.iconst 0, 1) := by decide +kernel
theorem dX8_order_99 : decode cX8_order 99 = .ok (.ireturn, 1) := by decide +kernel
abbrev rmX8_order : Room := { frames := 3, cells := 0, slots := 0, locals := 68 }
noncomputable def fLX8_order_39 (σ : St) (x0 : Nat) (x1 : Int64) (x3 : Int64) (x6 : Int32) (a : Int32) : Option ((Int32) ⊕ ((Int32 × Int32) ⊕ (Unit))) :=
if x6 ≤ a then
(some (Sum.inr (Sum.inr ())))
else
((fX10_letterOf x1 a).bind fun w49 =>
(fX10_letterOf x3 a).bind fun w57 =>
if w49 = w57 then
(xlet (a + 1) fun v92 =>
some (Sum.inl v92))
else
(some (Sum.inr (Sum.inl (w49, w57)))))
set_option maxHeartbeats 4000000 in
set_option maxRecDepth 100000 in
theorem lpX8_order_39 {X : xX} {σ : St} {x0 : Nat} {x1 : Int64} {x3 : Int64} {x6 : Int32}  {a0 : Int32} {b : (Int32 × Int32) ⊕ (Unit)} (C : Ok X cX8_order 10 RX8 rmX8_order (some .int)) (hb : iterP (fLX8_order_39 σ x0 x1 x3 x6) a0 = some b) (hy0 : ∀ s, b = (Sum.inl s) → V X (0, 0) σ 69 [(0, .ref (x0)), (8, .int (s.1)), (9, .int (s.2))] []) (hy1 : ∀ s, b = (Sum.inr s) → V X (0, 0) σ 98 [] []) : V X (0, 0) σ 39 [(0, .ref (x0)), (1, .long (x1)), (3, .long (x3)), (6, .int (x6)), (7, .int (a0))] [] := by
  obtain ⟨n, hn⟩ := iterP_some hb
  refine x_loop (P := fun a => V X (0, 0) σ 39 [(0, .ref (x0)), (1, .long (x1)), (3, .long (x3)), (6, .int (x6)), (7, .int (a))] []) ?_ n a0 hn
  intro a c hf hK hxx
  have hx0 : ∀ s, c = Sum.inr (Sum.inl s) → V X (0, 0) σ 69 [(0, .ref (x0)), (8, .int (s.1)), (9, .int (s.2))] [] := fun s e => hy0 s (hxx _ e).symm
  have hx1 : ∀ s, c = Sum.inr (Sum.inr s) → V X (0, 0) σ 98 [] [] := fun s e => hy1 s (hxx _ e).symm
  unfold fLX8_order_39 at hf
  refine x_iload C dX8_order_39 41 rfl 4 rfl ?_
  refine x_iload C dX8_order_41 43 rfl 3 rfl ?_
  refine x_icmp_ge C dX8_order_43 98 (by decide) 46 rfl (fun hc => ?_) (fun hc => ?_)
  · have hf := (if_pos hc).symm.trans hf
    refine x_lv [] (lv' := []) rfl ?_
    exact hx1 _ (Option.some.inj hf).symm
  · have hf := (if_neg hc).symm.trans hf
    refine x_lload_n C dX8_order_46 47 rfl 1 rfl rfl ?_
    refine x_iload C dX8_order_47 49 rfl 4 rfl ?_
    obtain ⟨w49, hw49, hf⟩ := x_bind hf
    refine x_callSi C dX8_order_49 52 rfl (cX10_letterOfc hw49) kX10_letterOf ksX10_letterOf w615 ⟨rfl, rfl⟩ ⟨Nat.le_of_ble_eq_true rfl, Nat.le_of_ble_eq_true rfl⟩ ⟨Nat.zero_le _, Nat.zero_le _⟩ rfl rfl (Nat.le_of_ble_eq_true rfl) ?_
    refine x_istore C dX8_order_52 54 rfl rfl [(8, .int (w49)), (0, .ref (x0)), (1, .long (x1)), (3, .long (x3)), (6, .int (x6)), (7, .int (a))] rfl ?_
    refine x_lload_n C dX8_order_54 55 rfl 3 rfl rfl ?_
    refine x_iload C dX8_order_55 57 rfl 5 rfl ?_
    obtain ⟨w57, hw57, hf⟩ := x_bind hf
    refine x_callSi C dX8_order_57 60 rfl (cX10_letterOfc hw57) kX10_letterOf ksX10_letterOf w615 ⟨rfl, rfl⟩ ⟨Nat.le_of_ble_eq_true rfl, Nat.le_of_ble_eq_true rfl⟩ ⟨Nat.zero_le _, Nat.zero_le _⟩ rfl rfl (Nat.le_of_ble_eq_true rfl) ?_
    refine x_istore C dX8_order_60 62 rfl rfl [(9, .int (w57)), (8, .int (w49)), (0, .ref (x0)), (1, .long (x1)), (3, .long (x3)), (6, .int (x6)), (7, .int (a))] rfl ?_
    refine x_iload C dX8_order_62 64 rfl 1 rfl ?_
    refine x_iload C dX8_order_64 66 rfl 0 rfl ?_
    refine x_icmp_eq C dX8_order_66 92 (by decide) 69 rfl (fun hc => ?_) (fun hc => ?_)
    · have hf := (if_pos hc).symm.trans hf
      obtain ⟨v92, ev92, hf⟩ := xlet_some hf
      refine x_iinc C dX8_order_92 95 rfl 6 rfl v92 ev92 rfl [(7, .int (v92)), (9, .int (w57)), (8, .int (w49)), (0, .ref (x0)), (1, .long (x1)), (3, .long (x3)), (6, .int (x6))] rfl ?_
      refine x_goto C dX8_order_95 39 (by decide) ?_
      refine x_lv [3, 4, 5, 6, 0] (lv' := [(0, .ref (x0)), (1, .long (x1)), (3, .long (x3)), (6, .int (x6)), (7, .int (v92))]) rfl ?_
      exact hK _ (Option.some.inj hf).symm
    · have hf := (if_neg hc).symm.trans hf
      refine x_lv [2, 1, 0] (lv' := [(0, .ref (x0)), (8, .int (w49)), (9, .int (w57))]) rfl ?_
      exact hx0 _ (Option.some.inj hf).symm
noncomputable def fX8_order (σ : St) (x0 : Nat) (x1 : Int64) (x3 : Int64) : Option (Int32) :=
(isO σ x0 8).bind fun _ =>
(fX8_weigh σ x0 x1).bind fun w2 =>
(isO σ x0 8).bind fun _ =>
(fX8_weigh σ x0 x3).bind fun w7 =>
(fJ6_compare_7cf53 w2 w7).bind fun w10 =>
if w10 = 0 then
((fX10_length x1).bind fun w24 =>
(fX10_length x3).bind fun w28 =>
xlet (imin w24 w28) fun v34 =>
(iterP (fLX8_order_39 σ x0 x1 x3 v34) 0).bind fun b39 =>
(match b39 with
| .inl s39 =>
(gR σ x0 8 5).bind fun v70 =>
(aI σ v70 0 s39.1).bind fun v75 =>
(gR σ x0 8 5).bind fun v77 =>
(aI σ v77 0 s39.2).bind fun v82 =>
if v75 ≤ v82 then
(some (-1))
else
(some 1)
| .inr s39 =>
some 0))
else
(some w10)
set_option maxHeartbeats 4000000 in
set_option maxRecDepth 100000 in
theorem cX8_orderc {l : Launch} {G : xG} {A : Nat → Prop} {σ : St} {x0 : Nat} {x1 : Int64} {x3 : Int64} {c : Int32} (hf : fX8_order σ x0 x1 x3 = some c) : Con l yX8_order (xws yX8_order cX8_order 10 (some .int)) rmX8_order [.ref (x0), .long (x1), .long (x3)] G A σ (some (.int c)) σ := by
  refine x_start rfl (Nat.le_of_ble_eq_true rfl) (fun X _ _ _ C hE0 => ?_)
  have hE : ∀ r, c = r → xE1 X (some (.int r)) σ := fun r e => e ▸ hE0
  show V X (0, 0) σ 0 [(0, .ref (x0)), (1, .long (x1)), (3, .long (x3))] []
  unfold fX8_order at hf
  refine x_aload_n C dX8_order_0 1 rfl 0 rfl rfl ?_
  refine x_lload_n C dX8_order_1 2 rfl 1 rfl rfl ?_
  obtain ⟨o2, ho2, hf⟩ := x_bind hf
  obtain ⟨w2, hw2, hf⟩ := x_bind hf
  refine x_callVi C dX8_order_2 5 rfl ho2 cl8.1 rfl (cX8_weighc hw2) kX8_weigh kvX8_weigh w605 ⟨rfl, rfl⟩ ⟨Nat.le_of_ble_eq_true rfl, Nat.le_of_ble_eq_true rfl⟩ ⟨Nat.zero_le _, Nat.zero_le _⟩ rfl rfl (Nat.le_of_ble_eq_true rfl) ?_
  refine x_aload_n C dX8_order_5 6 rfl 0 rfl rfl ?_
  refine x_lload_n C dX8_order_6 7 rfl 2 rfl rfl ?_
  obtain ⟨o7, ho7, hf⟩ := x_bind hf
  obtain ⟨w7, hw7, hf⟩ := x_bind hf
  refine x_callVi C dX8_order_7 10 rfl ho7 cl8.1 rfl (cX8_weighc hw7) kX8_weigh kvX8_weigh w605 ⟨rfl, rfl⟩ ⟨Nat.le_of_ble_eq_true rfl, Nat.le_of_ble_eq_true rfl⟩ ⟨Nat.zero_le _, Nat.zero_le _⟩ rfl rfl (Nat.le_of_ble_eq_true rfl) ?_
  obtain ⟨w10, hw10, hf⟩ := x_bind hf
  refine x_callSi C dX8_order_10 13 rfl (cJ6_compare_7cf53c hw10) kJ6_compare_7cf53 ksJ6_compare_7cf53 w619 ⟨rfl, rfl⟩ ⟨Nat.le_of_ble_eq_true rfl, Nat.le_of_ble_eq_true rfl⟩ ⟨Nat.zero_le _, Nat.zero_le _⟩ rfl rfl (Nat.le_of_ble_eq_true rfl) ?_
  refine x_istore C dX8_order_13 15 rfl rfl [(5, .int (w10)), (0, .ref (x0)), (1, .long (x1)), (3, .long (x3))] rfl ?_
  refine x_iload C dX8_order_15 17 rfl 0 rfl ?_
  refine x_if_eq C dX8_order_17 23 (by decide) 20 rfl (fun hc => ?_) (fun hc => ?_)
  · have hf := (if_pos hc).symm.trans hf
    refine x_lload_n C dX8_order_23 24 rfl 2 rfl rfl ?_
    obtain ⟨w24, hw24, hf⟩ := x_bind hf
    refine x_callSi C dX8_order_24 27 rfl (cX10_lengthc hw24) kX10_length ksX10_length w612 ⟨rfl, rfl⟩ ⟨Nat.le_of_ble_eq_true rfl, Nat.le_of_ble_eq_true rfl⟩ ⟨Nat.zero_le _, Nat.zero_le _⟩ rfl rfl (Nat.le_of_ble_eq_true rfl) ?_
    refine x_lload_n C dX8_order_27 28 rfl 3 rfl rfl ?_
    obtain ⟨w28, hw28, hf⟩ := x_bind hf
    refine x_callSi C dX8_order_28 31 rfl (cX10_lengthc hw28) kX10_length ksX10_length w612 ⟨rfl, rfl⟩ ⟨Nat.le_of_ble_eq_true rfl, Nat.le_of_ble_eq_true rfl⟩ ⟨Nat.zero_le _, Nat.zero_le _⟩ rfl rfl (Nat.le_of_ble_eq_true rfl) ?_
    refine x_mmin C dX8_order_31 34 rfl w622 mminw ⟨Nat.le_of_ble_eq_true rfl, Nat.le_of_ble_eq_true rfl⟩ ⟨Nat.zero_le _, Nat.zero_le _⟩ ?_
    obtain ⟨v34, ev34, hf⟩ := xlet_some hf
    refine x_topi ev34 ?_
    refine x_istore C dX8_order_34 36 rfl rfl [(6, .int (v34)), (5, .int (w10)), (0, .ref (x0)), (1, .long (x1)), (3, .long (x3))] rfl ?_
    refine x_iconst C dX8_order_36 37 rfl 0 (by decide) ?_
    refine x_istore C dX8_order_37 39 rfl rfl [(7, .int (0)), (6, .int (v34)), (5, .int (w10)), (0, .ref (x0)), (1, .long (x1)), (3, .long (x3))] rfl ?_
    obtain ⟨b39, hb39, hf⟩ := x_bind hf
    refine x_lv [3, 4, 5, 1, 0] (lv' := [(0, .ref (x0)), (1, .long (x1)), (3, .long (x3)), (6, .int (v34)), (7, .int (0))]) rfl ?_
    refine lpX8_order_39 C hb39 (fun s39 e39 => ?_) (fun s39 e39 => ?_)
    · subst e39
      try dsimp only at hf
      refine x_aload_n C dX8_order_69 70 rfl 0 rfl rfl ?_
      obtain ⟨v70, hv70, hf⟩ := x_bind hf
      refine x_getR C dX8_order_70 73 rfl hv70 cl8 rfl w206 ?_
      refine x_iload C dX8_order_73 75 rfl 1 rfl ?_
      obtain ⟨v75, hv75, hf⟩ := x_bind hf
      refine x_iaload C dX8_order_75 76 rfl hv75 ?_
      refine x_aload_n C dX8_order_76 77 rfl 0 rfl rfl ?_
      obtain ⟨v77, hv77, hf⟩ := x_bind hf
      refine x_getR C dX8_order_77 80 rfl hv77 cl8 rfl w206 ?_
      refine x_iload C dX8_order_80 82 rfl 2 rfl ?_
      obtain ⟨v82, hv82, hf⟩ := x_bind hf
      refine x_iaload C dX8_order_82 83 rfl hv82 ?_
      refine x_icmp_le C dX8_order_83 90 (by decide) 86 rfl (fun hc => ?_) (fun hc => ?_)
      · have hf := (if_pos hc).symm.trans hf
        refine x_iconst C dX8_order_90 91 rfl (-1) (by decide) ?_
        exact x_iret C (hE _ (Option.some.inj hf).symm) dX8_order_91
      · have hf := (if_neg hc).symm.trans hf
        refine x_iconst C dX8_order_86 87 rfl 1 (by decide) ?_
        refine x_goto C dX8_order_87 91 (by decide) ?_
        exact x_iret C (hE _ (Option.some.inj hf).symm) dX8_order_91
    · subst e39
      try dsimp only at hf
      refine x_iconst C dX8_order_98 99 rfl 0 (by decide) ?_
      exact x_iret C (hE _ (Option.some.inj hf).symm) dX8_order_99
  · have hf := (if_neg hc).symm.trans hf
    refine x_iload C dX8_order_20 22 rfl 0 rfl ?_
    exact x_iret C (hE _ (Option.some.inj hf).symm) dX8_order_22
theorem dX8_codeOf_0 : decode cX8_codeOf 0 = .ok (.iload_n 0, 1) := by decide +kernel
theorem dX8_codeOf_1 : decode cX8_codeOf 1 = .ok (.bipush 16, 2) := by decide +kernel
theorem dX8_codeOf_3 : decode cX8_codeOf 3 = .ok (.imul, 1) := by decide +kernel
theorem dX8_codeOf_4 : decode cX8_codeOf 4 = .ok (.iload_n 1, 1) := by decide +kernel
theorem dX8_codeOf_5 : decode cX8_codeOf 5 = .ok (.iadd, 1) := by decide +kernel
theorem dX8_codeOf_6 : decode cX8_codeOf 6 = .ok (.ireturn, 1) := by decide +kernel
abbrev rmX8_codeOf : Room := { frames := 0, cells := 0, slots := 0, locals := 0 }
noncomputable def fX8_codeOf (x0 : Int32) (x1 : Int32) : Option (Int32) :=
some ((x0 * 16) + x1)
set_option maxHeartbeats 4000000 in
set_option maxRecDepth 100000 in
theorem cX8_codeOfc {l : Launch} {G : xG} {A : Nat → Prop} {σ : St} {x0 : Int32} {x1 : Int32} {c : Int32} (hf : fX8_codeOf x0 x1 = some c) : Con l yX8_codeOf (xws yX8_codeOf cX8_codeOf 2 (some .int)) rmX8_codeOf [.int (x0), .int (x1)] G A σ (some (.int c)) σ := by
  refine x_start rfl (Nat.le_of_ble_eq_true rfl) (fun X _ _ _ C hE0 => ?_)
  have hE : ∀ r, c = r → xE1 X (some (.int r)) σ := fun r e => e ▸ hE0
  show V X (0, 0) σ 0 [(0, .int (x0)), (1, .int (x1))] []
  unfold fX8_codeOf at hf
  refine x_iload_n C dX8_codeOf_0 1 rfl 0 rfl rfl ?_
  refine x_bipush C dX8_codeOf_1 3 rfl 16 (by decide) ?_
  refine x_imul C dX8_codeOf_3 4 rfl ?_
  refine x_iload_n C dX8_codeOf_4 5 rfl 1 rfl rfl ?_
  refine x_iadd C dX8_codeOf_5 6 rfl ?_
  exact x_iret C (hE _ (Option.some.inj hf).symm) dX8_codeOf_6
theorem dX8_add_0 : decode cX8_add 0 = .ok (.aload_n 0, 1) := by decide +kernel
theorem dX8_add_1 : decode cX8_add 1 = .ok (.getfield 15, 3) := by decide +kernel
theorem dX8_add_4 : decode cX8_add 4 = .ok (.bipush 12, 2) := by decide +kernel
theorem dX8_add_6 : decode cX8_add 6 = .ok (.if_icmp .lt 4, 3) := by decide +kernel
theorem dX8_add_9 : decode cX8_add 9 = .ok (.return_, 1) := by decide +kernel
theorem dX8_add_10 : decode cX8_add 10 = .ok (.aload_n 0, 1) := by decide +kernel
theorem dX8_add_11 : decode cX8_add 11 = .ok (.getfield 18, 3) := by decide +kernel
theorem dX8_add_14 : decode cX8_add 14 = .ok (.aload_n 0, 1) := by decide +kernel
theorem dX8_add_15 : decode cX8_add 15 = .ok (.getfield 15, 3) := by decide +kernel
theorem dX8_add_18 : decode cX8_add 18 = .ok (.lload_n 1, 1) := by decide +kernel
theorem dX8_add_19 : decode cX8_add 19 = .ok (.lastore, 1) := by decide +kernel
theorem dX8_add_20 : decode cX8_add 20 = .ok (.aload_n 0, 1) := by decide +kernel
theorem dX8_add_21 : decode cX8_add 21 = .ok (.getfield 22, 3) := by decide +kernel
theorem dX8_add_24 : decode cX8_add 24 = .ok (.aload_n 0, 1) := by decide +kernel
theorem dX8_add_25 : decode cX8_add 25 = .ok (.getfield 15, 3) := by decide +kernel
theorem dX8_add_28 : decode cX8_add 28 = .ok (.lload_n 3, 1) := by decide +kernel
theorem dX8_add_29 : decode cX8_add 29 = .ok (.lastore, 1) := by decide +kernel
theorem dX8_add_30 : decode cX8_add 30 = .ok (.aload_n 0, 1) := by decide +kernel
theorem dX8_add_31 : decode cX8_add 31 = .ok (.dup, 1) := by decide +kernel
theorem dX8_add_32 : decode cX8_add 32 = .ok (.getfield 15, 3) := by decide +kernel
theorem dX8_add_35 : decode cX8_add 35 = .ok (.iconst 1, 1) := by decide +kernel
theorem dX8_add_36 : decode cX8_add 36 = .ok (.iadd, 1) := by decide +kernel
theorem dX8_add_37 : decode cX8_add 37 = .ok (.putfield 15, 3) := by decide +kernel
theorem dX8_add_40 : decode cX8_add 40 = .ok (.aload_n 0, 1) := by decide +kernel
theorem dX8_add_41 : decode cX8_add 41 = .ok (.dup, 1) := by decide +kernel
theorem dX8_add_42 : decode cX8_add 42 = .ok (.getfield 32, 3) := by decide +kernel
theorem dX8_add_45 : decode cX8_add 45 = .ok (.iconst 1, 1) := by decide +kernel
theorem dX8_add_46 : decode cX8_add 46 = .ok (.iadd, 1) := by decide +kernel
theorem dX8_add_47 : decode cX8_add 47 = .ok (.putfield 32, 3) := by decide +kernel
theorem dX8_add_50 : decode cX8_add 50 = .ok (.return_, 1) := by decide +kernel
abbrev rmX8_add : Room := { frames := 0, cells := 0, slots := 0, locals := 0 }
noncomputable def fX8_add (σ : St) (x0 : Nat) (x1 : Int64) (x3 : Int64) : Option (St) :=
(gI σ x0 8 1).bind fun v1 =>
if v1 < ((12 : Int32)) then
((gR σ x0 8 2).bind fun v11 =>
(gI σ x0 8 1).bind fun v15 =>
(sL σ v11 v15 x1).bind fun σ19 =>
(gR σ19 x0 8 3).bind fun v21 =>
(gI σ19 x0 8 1).bind fun v25 =>
(sL σ19 v21 v25 x3).bind fun σ29 =>
(gI σ29 x0 8 1).bind fun v32 =>
(wrF σ29 x0 8 1 (.int (v32 + 1))).bind fun σ37 =>
(gI σ37 x0 8 6).bind fun v42 =>
(wrF σ37 x0 8 6 (.int (v42 + 1))).bind fun σ47 =>
some σ47)
else
(some σ)
set_option maxHeartbeats 4000000 in
set_option maxRecDepth 100000 in
theorem cX8_addc {l : Launch} {G : xG} {A : Nat → Prop} {σ : St} {x0 : Nat} {x1 : Int64} {x3 : Int64} {c : St} (hf : fX8_add σ x0 x1 x3 = some c) : Con l yX8_add (xws yX8_add cX8_add 5 none) rmX8_add [.ref (x0), .long (x1), .long (x3)] G A σ none c := by
  refine x_start rfl (Nat.le_of_ble_eq_true rfl) (fun X _ _ _ C hE0 => ?_)
  have hE : ∀ r, c = r → xE1 X none r := fun r e => e ▸ hE0
  show V X (0, 0) σ 0 [(0, .ref (x0)), (1, .long (x1)), (3, .long (x3))] []
  unfold fX8_add at hf
  refine x_aload_n C dX8_add_0 1 rfl 0 rfl rfl ?_
  obtain ⟨v1, hv1, hf⟩ := x_bind hf
  refine x_getI C dX8_add_1 4 rfl hv1 cl8 rfl w183 ?_
  refine x_bipush C dX8_add_4 6 rfl 12 (by decide) ?_
  refine x_icmp_lt C dX8_add_6 10 (by decide) 9 rfl (fun hc => ?_) (fun hc => ?_)
  · have hf := (if_pos hc).symm.trans hf
    refine x_aload_n C dX8_add_10 11 rfl 0 rfl rfl ?_
    obtain ⟨v11, hv11, hf⟩ := x_bind hf
    refine x_getR C dX8_add_11 14 rfl hv11 cl8 rfl w190 ?_
    refine x_aload_n C dX8_add_14 15 rfl 0 rfl rfl ?_
    obtain ⟨v15, hv15, hf⟩ := x_bind hf
    refine x_getI C dX8_add_15 18 rfl hv15 cl8 rfl w183 ?_
    refine x_lload_n C dX8_add_18 19 rfl 1 rfl rfl ?_
    obtain ⟨σ19, hσ19, hf⟩ := x_bind hf
    refine x_lastore C dX8_add_19 20 rfl hσ19 ?_
    refine x_aload_n C dX8_add_20 21 rfl 0 rfl rfl ?_
    obtain ⟨v21, hv21, hf⟩ := x_bind hf
    refine x_getR C dX8_add_21 24 rfl hv21 cl8 rfl w197 ?_
    refine x_aload_n C dX8_add_24 25 rfl 0 rfl rfl ?_
    obtain ⟨v25, hv25, hf⟩ := x_bind hf
    refine x_getI C dX8_add_25 28 rfl hv25 cl8 rfl w183 ?_
    refine x_lload_n C dX8_add_28 29 rfl 2 rfl rfl ?_
    obtain ⟨σ29, hσ29, hf⟩ := x_bind hf
    refine x_lastore C dX8_add_29 30 rfl hσ29 ?_
    refine x_aload_n C dX8_add_30 31 rfl 0 rfl rfl ?_
    refine x_dup C dX8_add_31 32 rfl rfl ?_
    obtain ⟨v32, hv32, hf⟩ := x_bind hf
    refine x_getI C dX8_add_32 35 rfl hv32 cl8 rfl w183 ?_
    refine x_iconst C dX8_add_35 36 rfl 1 (by decide) ?_
    refine x_iadd C dX8_add_36 37 rfl ?_
    obtain ⟨σ37, hσ37, hf⟩ := x_bind hf
    refine x_putX C dX8_add_37 40 rfl hσ37 cl8 rfl w183 rfl rfl rfl ?_
    refine x_aload_n C dX8_add_40 41 rfl 0 rfl rfl ?_
    refine x_dup C dX8_add_41 42 rfl rfl ?_
    obtain ⟨v42, hv42, hf⟩ := x_bind hf
    refine x_getI C dX8_add_42 45 rfl hv42 cl8 rfl w209 ?_
    refine x_iconst C dX8_add_45 46 rfl 1 (by decide) ?_
    refine x_iadd C dX8_add_46 47 rfl ?_
    obtain ⟨σ47, hσ47, hf⟩ := x_bind hf
    refine x_putX C dX8_add_47 50 rfl hσ47 cl8 rfl w209 rfl rfl rfl ?_
    exact x_vret C (hE _ (Option.some.inj hf).symm) dX8_add_50
  · have hf := (if_neg hc).symm.trans hf
    exact x_vret C (hE _ (Option.some.inj hf).symm) dX8_add_9
theorem dX8_stepCode_0 : decode cX8_stepCode 0 = .ok (.iconst 0, 1) := by decide +kernel
theorem dX8_stepCode_1 : decode cX8_stepCode 1 = .ok (.istore 4, 2) := by decide +kernel
theorem dX8_stepCode_3 : decode cX8_stepCode 3 = .ok (.iconst 0, 1) := by decide +kernel
theorem dX8_stepCode_4 : decode cX8_stepCode 4 = .ok (.istore 5, 2) := by decide +kernel
theorem dX8_stepCode_6 : decode cX8_stepCode 6 = .ok (.iload 5, 2) := by decide +kernel
theorem dX8_stepCode_8 : decode cX8_stepCode 8 = .ok (.lload_n 1, 1) := by decide +kernel
theorem dX8_stepCode_9 : decode cX8_stepCode 9 = .ok (.invokestatic 55, 3) := by decide +kernel
theorem dX8_stepCode_12 : decode cX8_stepCode 12 = .ok (.if_icmp .ge 67, 3) := by decide +kernel
theorem dX8_stepCode_15 : decode cX8_stepCode 15 = .ok (.iconst 0, 1) := by decide +kernel
theorem dX8_stepCode_16 : decode cX8_stepCode 16 = .ok (.istore 6, 2) := by decide +kernel
theorem dX8_stepCode_18 : decode cX8_stepCode 18 = .ok (.iload 6, 2) := by decide +kernel
theorem dX8_stepCode_20 : decode cX8_stepCode 20 = .ok (.aload_n 0, 1) := by decide +kernel
theorem dX8_stepCode_21 : decode cX8_stepCode 21 = .ok (.getfield 15, 3) := by decide +kernel
theorem dX8_stepCode_24 : decode cX8_stepCode 24 = .ok (.if_icmp .ge 49, 3) := by decide +kernel
theorem dX8_stepCode_27 : decode cX8_stepCode 27 = .ok (.lload_n 1, 1) := by decide +kernel
theorem dX8_stepCode_28 : decode cX8_stepCode 28 = .ok (.iload 5, 2) := by decide +kernel
theorem dX8_stepCode_30 : decode cX8_stepCode 30 = .ok (.aload_n 0, 1) := by decide +kernel
theorem dX8_stepCode_31 : decode cX8_stepCode 31 = .ok (.getfield 18, 3) := by decide +kernel
theorem dX8_stepCode_34 : decode cX8_stepCode 34 = .ok (.iload 6, 2) := by decide +kernel
theorem dX8_stepCode_36 : decode cX8_stepCode 36 = .ok (.laload, 1) := by decide +kernel
theorem dX8_stepCode_37 : decode cX8_stepCode 37 = .ok (.aload_n 0, 1) := by decide +kernel
theorem dX8_stepCode_38 : decode cX8_stepCode 38 = .ok (.getfield 22, 3) := by decide +kernel
theorem dX8_stepCode_41 : decode cX8_stepCode 41 = .ok (.iload 6, 2) := by decide +kernel
theorem dX8_stepCode_43 : decode cX8_stepCode 43 = .ok (.laload, 1) := by decide +kernel
theorem dX8_stepCode_44 : decode cX8_stepCode 44 = .ok (.invokestatic 106, 3) := by decide +kernel
theorem dX8_stepCode_47 : decode cX8_stepCode 47 = .ok (.ifCond .eq 20, 3) := by decide +kernel
theorem dX8_stepCode_50 : decode cX8_stepCode 50 = .ok (.iload 4, 2) := by decide +kernel
theorem dX8_stepCode_52 : decode cX8_stepCode 52 = .ok (.iload_n 3, 1) := by decide +kernel
theorem dX8_stepCode_53 : decode cX8_stepCode 53 = .ok (.if_icmp .ne 11, 3) := by decide +kernel
theorem dX8_stepCode_56 : decode cX8_stepCode 56 = .ok (.iload 5, 2) := by decide +kernel
theorem dX8_stepCode_58 : decode cX8_stepCode 58 = .ok (.iload 6, 2) := by decide +kernel
theorem dX8_stepCode_60 : decode cX8_stepCode 60 = .ok (.invokestatic 110, 3) := by decide +kernel
theorem dX8_stepCode_63 : decode cX8_stepCode 63 = .ok (.ireturn, 1) := by decide +kernel
theorem dX8_stepCode_64 : decode cX8_stepCode 64 = .ok (.iinc 4 1, 3) := by decide +kernel
theorem dX8_stepCode_67 : decode cX8_stepCode 67 = .ok (.iinc 6 1, 3) := by decide +kernel
theorem dX8_stepCode_70 : decode cX8_stepCode 70 = .ok (.goto (-52), 3) := by decide +kernel
theorem dX8_stepCode_73 : decode cX8_stepCode 73 = .ok (.iinc 5 1, 3) := by decide +kernel
theorem dX8_stepCode_76 : decode cX8_stepCode 76 = .ok (.goto (-70), 3) := by decide +kernel
theorem dX8_stepCode_79 : decode cX8_stepCode 79 = .ok (.iconst (-1), 1) := by decide +kernel
theorem dX8_stepCode_80 : decode cX8_stepCode 80 = .ok (.ireturn, 1) := by decide +kernel
abbrev rmX8_stepCode : Room := { frames := 1, cells := 0, slots := 0, locals := 29 }
noncomputable def fLX8_stepCode_18 (σ : St) (x0 : Nat) (x1 : Int64) (x3 : Int32) (x5 : Int32) (a : Int32 × Int32) : Option ((Int32 × Int32) ⊕ ((Int32) ⊕ (Int32))) :=
(gI σ x0 8 1).bind fun v21 =>
if v21 ≤ a.2 then
(some (Sum.inr (Sum.inr a.1)))
else
((gR σ x0 8 2).bind fun v31 =>
(aL σ v31 a.2).bind fun v36 =>
(gR σ x0 8 3).bind fun v38 =>
(aL σ v38 a.2).bind fun v43 =>
(fX10_fits x1 x5 v36 v43).bind fun w44 =>
if w44 = 0 then
(xlet (a.2 + 1) fun v67 =>
some (Sum.inl (a.1, v67)))
else
(if a.1 = x3 then
(some (Sum.inr (Sum.inl a.2)))
else
(xlet (a.1 + 1) fun v64 =>
xlet (a.2 + 1) fun v67 =>
some (Sum.inl (v64, v67)))))
set_option maxHeartbeats 4000000 in
set_option maxRecDepth 100000 in
theorem lpX8_stepCode_18 {X : xX} {σ : St} {x0 : Nat} {x1 : Int64} {x3 : Int32} {x5 : Int32}  {a0 : Int32 × Int32} {b : (Int32) ⊕ (Int32)} (C : Ok X cX8_stepCode 7 RX8 rmX8_stepCode (some .int)) (hb : iterP (fLX8_stepCode_18 σ x0 x1 x3 x5) a0 = some b) (hy0 : ∀ s, b = (Sum.inl s) → V X (0, 0) σ 56 [(5, .int (x5)), (6, .int (s))] []) (hy1 : ∀ s, b = (Sum.inr s) → V X (0, 0) σ 73 [(0, .ref (x0)), (1, .long (x1)), (3, .int (x3)), (4, .int (s)), (5, .int (x5))] []) : V X (0, 0) σ 18 [(0, .ref (x0)), (1, .long (x1)), (3, .int (x3)), (4, .int (a0.1)), (5, .int (x5)), (6, .int (a0.2))] [] := by
  obtain ⟨n, hn⟩ := iterP_some hb
  refine x_loop (P := fun a => V X (0, 0) σ 18 [(0, .ref (x0)), (1, .long (x1)), (3, .int (x3)), (4, .int (a.1)), (5, .int (x5)), (6, .int (a.2))] []) ?_ n a0 hn
  intro a c hf hK hxx
  have hx0 : ∀ s, c = Sum.inr (Sum.inl s) → V X (0, 0) σ 56 [(5, .int (x5)), (6, .int (s))] [] := fun s e => hy0 s (hxx _ e).symm
  have hx1 : ∀ s, c = Sum.inr (Sum.inr s) → V X (0, 0) σ 73 [(0, .ref (x0)), (1, .long (x1)), (3, .int (x3)), (4, .int (s)), (5, .int (x5))] [] := fun s e => hy1 s (hxx _ e).symm
  unfold fLX8_stepCode_18 at hf
  refine x_iload C dX8_stepCode_18 20 rfl 5 rfl ?_
  refine x_aload_n C dX8_stepCode_20 21 rfl 0 rfl rfl ?_
  obtain ⟨v21, hv21, hf⟩ := x_bind hf
  refine x_getI C dX8_stepCode_21 24 rfl hv21 cl8 rfl w183 ?_
  refine x_icmp_ge C dX8_stepCode_24 73 (by decide) 27 rfl (fun hc => ?_) (fun hc => ?_)
  · have hf := (if_pos hc).symm.trans hf
    refine x_lv [0, 1, 2, 3, 4] (lv' := [(0, .ref (x0)), (1, .long (x1)), (3, .int (x3)), (4, .int (a.1)), (5, .int (x5))]) rfl ?_
    exact hx1 _ (Option.some.inj hf).symm
  · have hf := (if_neg hc).symm.trans hf
    refine x_lload_n C dX8_stepCode_27 28 rfl 1 rfl rfl ?_
    refine x_iload C dX8_stepCode_28 30 rfl 4 rfl ?_
    refine x_aload_n C dX8_stepCode_30 31 rfl 0 rfl rfl ?_
    obtain ⟨v31, hv31, hf⟩ := x_bind hf
    refine x_getR C dX8_stepCode_31 34 rfl hv31 cl8 rfl w190 ?_
    refine x_iload C dX8_stepCode_34 36 rfl 5 rfl ?_
    obtain ⟨v36, hv36, hf⟩ := x_bind hf
    refine x_laload C dX8_stepCode_36 37 rfl hv36 ?_
    refine x_aload_n C dX8_stepCode_37 38 rfl 0 rfl rfl ?_
    obtain ⟨v38, hv38, hf⟩ := x_bind hf
    refine x_getR C dX8_stepCode_38 41 rfl hv38 cl8 rfl w197 ?_
    refine x_iload C dX8_stepCode_41 43 rfl 5 rfl ?_
    obtain ⟨v43, hv43, hf⟩ := x_bind hf
    refine x_laload C dX8_stepCode_43 44 rfl hv43 ?_
    obtain ⟨w44, hw44, hf⟩ := x_bind hf
    refine x_callSi C dX8_stepCode_44 47 rfl (cX10_fitsc hw44) kX10_fits ksX10_fits w1154 ⟨rfl, rfl⟩ ⟨Nat.le_of_ble_eq_true rfl, Nat.le_of_ble_eq_true rfl⟩ ⟨Nat.zero_le _, Nat.zero_le _⟩ rfl rfl (Nat.le_of_ble_eq_true rfl) ?_
    refine x_if_eq C dX8_stepCode_47 67 (by decide) 50 rfl (fun hc => ?_) (fun hc => ?_)
    · have hf := (if_pos hc).symm.trans hf
      obtain ⟨v67, ev67, hf⟩ := xlet_some hf
      refine x_iinc C dX8_stepCode_67 70 rfl 5 rfl v67 ev67 rfl [(6, .int (v67)), (0, .ref (x0)), (1, .long (x1)), (3, .int (x3)), (4, .int (a.1)), (5, .int (x5))] rfl ?_
      refine x_goto C dX8_stepCode_70 18 (by decide) ?_
      refine x_lv [1, 2, 3, 4, 5, 0] (lv' := [(0, .ref (x0)), (1, .long (x1)), (3, .int (x3)), (4, .int (a.1)), (5, .int (x5)), (6, .int (v67))]) rfl ?_
      exact hK _ (Option.some.inj hf).symm
    · have hf := (if_neg hc).symm.trans hf
      refine x_iload C dX8_stepCode_50 52 rfl 3 rfl ?_
      refine x_iload_n C dX8_stepCode_52 53 rfl 2 rfl rfl ?_
      refine x_icmp_ne C dX8_stepCode_53 64 (by decide) 56 rfl (fun hc => ?_) (fun hc => ?_)
      · have hf := (if_neg hc).symm.trans hf
        obtain ⟨v64, ev64, hf⟩ := xlet_some hf
        refine x_iinc C dX8_stepCode_64 67 rfl 3 rfl v64 ev64 rfl [(4, .int (v64)), (0, .ref (x0)), (1, .long (x1)), (3, .int (x3)), (5, .int (x5)), (6, .int (a.2))] rfl ?_
        obtain ⟨v67, ev67, hf⟩ := xlet_some hf
        refine x_iinc C dX8_stepCode_67 70 rfl 5 rfl v67 ev67 rfl [(6, .int (v67)), (4, .int (v64)), (0, .ref (x0)), (1, .long (x1)), (3, .int (x3)), (5, .int (x5))] rfl ?_
        refine x_goto C dX8_stepCode_70 18 (by decide) ?_
        refine x_lv [2, 3, 4, 1, 5, 0] (lv' := [(0, .ref (x0)), (1, .long (x1)), (3, .int (x3)), (4, .int (v64)), (5, .int (x5)), (6, .int (v67))]) rfl ?_
        exact hK _ (Option.some.inj hf).symm
      · have hf := (if_pos hc).symm.trans hf
        refine x_lv [4, 5] (lv' := [(5, .int (x5)), (6, .int (a.2))]) rfl ?_
        exact hx0 _ (Option.some.inj hf).symm
noncomputable def fLX8_stepCode_6 (σ : St) (x0 : Nat) (x1 : Int64) (x3 : Int32) (a : Int32 × Int32) : Option ((Int32 × Int32) ⊕ ((Int32 × Int32) ⊕ (Unit))) :=
(fX10_length x1).bind fun w9 =>
if w9 ≤ a.2 then
(some (Sum.inr (Sum.inr ())))
else
((iterP (fLX8_stepCode_18 σ x0 x1 x3 a.2) (a.1, 0)).bind fun b18 =>
(match b18 with
| .inl s18 =>
some (Sum.inr (Sum.inl (a.2, s18)))
| .inr s18 =>
xlet (a.2 + 1) fun v73 =>
some (Sum.inl (s18, v73))))
set_option maxHeartbeats 4000000 in
set_option maxRecDepth 100000 in
theorem lpX8_stepCode_6 {X : xX} {σ : St} {x0 : Nat} {x1 : Int64} {x3 : Int32}  {a0 : Int32 × Int32} {b : (Int32 × Int32) ⊕ (Unit)} (C : Ok X cX8_stepCode 7 RX8 rmX8_stepCode (some .int)) (hb : iterP (fLX8_stepCode_6 σ x0 x1 x3) a0 = some b) (hy0 : ∀ s, b = (Sum.inl s) → V X (0, 0) σ 56 [(5, .int (s.1)), (6, .int (s.2))] []) (hy1 : ∀ s, b = (Sum.inr s) → V X (0, 0) σ 79 [] []) : V X (0, 0) σ 6 [(0, .ref (x0)), (1, .long (x1)), (3, .int (x3)), (4, .int (a0.1)), (5, .int (a0.2))] [] := by
  obtain ⟨n, hn⟩ := iterP_some hb
  refine x_loop (P := fun a => V X (0, 0) σ 6 [(0, .ref (x0)), (1, .long (x1)), (3, .int (x3)), (4, .int (a.1)), (5, .int (a.2))] []) ?_ n a0 hn
  intro a c hf hK hxx
  have hx0 : ∀ s, c = Sum.inr (Sum.inl s) → V X (0, 0) σ 56 [(5, .int (s.1)), (6, .int (s.2))] [] := fun s e => hy0 s (hxx _ e).symm
  have hx1 : ∀ s, c = Sum.inr (Sum.inr s) → V X (0, 0) σ 79 [] [] := fun s e => hy1 s (hxx _ e).symm
  unfold fLX8_stepCode_6 at hf
  refine x_iload C dX8_stepCode_6 8 rfl 4 rfl ?_
  refine x_lload_n C dX8_stepCode_8 9 rfl 1 rfl rfl ?_
  obtain ⟨w9, hw9, hf⟩ := x_bind hf
  refine x_callSi C dX8_stepCode_9 12 rfl (cX10_lengthc hw9) kX10_length ksX10_length w612 ⟨rfl, rfl⟩ ⟨Nat.le_of_ble_eq_true rfl, Nat.le_of_ble_eq_true rfl⟩ ⟨Nat.zero_le _, Nat.zero_le _⟩ rfl rfl (Nat.le_of_ble_eq_true rfl) ?_
  refine x_icmp_ge C dX8_stepCode_12 79 (by decide) 15 rfl (fun hc => ?_) (fun hc => ?_)
  · have hf := (if_pos hc).symm.trans hf
    refine x_lv [] (lv' := []) rfl ?_
    exact hx1 _ (Option.some.inj hf).symm
  · have hf := (if_neg hc).symm.trans hf
    refine x_iconst C dX8_stepCode_15 16 rfl 0 (by decide) ?_
    refine x_istore C dX8_stepCode_16 18 rfl rfl [(6, .int (0)), (0, .ref (x0)), (1, .long (x1)), (3, .int (x3)), (4, .int (a.1)), (5, .int (a.2))] rfl ?_
    obtain ⟨b18, hb18, hf⟩ := x_bind hf
    refine x_lv [1, 2, 3, 4, 5, 0] (lv' := [(0, .ref (x0)), (1, .long (x1)), (3, .int (x3)), (4, .int (a.1)), (5, .int (a.2)), (6, .int (0))]) rfl ?_
    refine lpX8_stepCode_18 C hb18 (fun s18 e18 => ?_) (fun s18 e18 => ?_)
    · subst e18
      try dsimp only at hf
      exact hx0 _ (Option.some.inj hf).symm
    · subst e18
      try dsimp only at hf
      obtain ⟨v73, ev73, hf⟩ := xlet_some hf
      refine x_iinc C dX8_stepCode_73 76 rfl 4 rfl v73 ev73 rfl [(5, .int (v73)), (0, .ref (x0)), (1, .long (x1)), (3, .int (x3)), (4, .int (s18))] rfl ?_
      refine x_goto C dX8_stepCode_76 6 (by decide) ?_
      refine x_lv [1, 2, 3, 4, 0] (lv' := [(0, .ref (x0)), (1, .long (x1)), (3, .int (x3)), (4, .int (s18)), (5, .int (v73))]) rfl ?_
      exact hK _ (Option.some.inj hf).symm
noncomputable def fX8_stepCode (σ : St) (x0 : Nat) (x1 : Int64) (x3 : Int32) : Option (Int32) :=
(iterP (fLX8_stepCode_6 σ x0 x1 x3) (0, 0)).bind fun b6 =>
(match b6 with
| .inl s6 =>
(fX8_codeOf s6.1 s6.2).bind fun w60 =>
some w60
| .inr s6 =>
some (-1))
set_option maxHeartbeats 4000000 in
set_option maxRecDepth 100000 in
theorem cX8_stepCodec {l : Launch} {G : xG} {A : Nat → Prop} {σ : St} {x0 : Nat} {x1 : Int64} {x3 : Int32} {c : Int32} (hf : fX8_stepCode σ x0 x1 x3 = some c) : Con l yX8_stepCode (xws yX8_stepCode cX8_stepCode 7 (some .int)) rmX8_stepCode [.ref (x0), .long (x1), .int (x3)] G A σ (some (.int c)) σ := by
  refine x_start rfl (Nat.le_of_ble_eq_true rfl) (fun X _ _ _ C hE0 => ?_)
  have hE : ∀ r, c = r → xE1 X (some (.int r)) σ := fun r e => e ▸ hE0
  show V X (0, 0) σ 0 [(0, .ref (x0)), (1, .long (x1)), (3, .int (x3))] []
  unfold fX8_stepCode at hf
  refine x_iconst C dX8_stepCode_0 1 rfl 0 (by decide) ?_
  refine x_istore C dX8_stepCode_1 3 rfl rfl [(4, .int (0)), (0, .ref (x0)), (1, .long (x1)), (3, .int (x3))] rfl ?_
  refine x_iconst C dX8_stepCode_3 4 rfl 0 (by decide) ?_
  refine x_istore C dX8_stepCode_4 6 rfl rfl [(5, .int (0)), (4, .int (0)), (0, .ref (x0)), (1, .long (x1)), (3, .int (x3))] rfl ?_
  obtain ⟨b6, hb6, hf⟩ := x_bind hf
  refine x_lv [2, 3, 4, 1, 0] (lv' := [(0, .ref (x0)), (1, .long (x1)), (3, .int (x3)), (4, .int (0)), (5, .int (0))]) rfl ?_
  refine lpX8_stepCode_6 C hb6 (fun s6 e6 => ?_) (fun s6 e6 => ?_)
  · subst e6
    try dsimp only at hf
    refine x_iload C dX8_stepCode_56 58 rfl 0 rfl ?_
    refine x_iload C dX8_stepCode_58 60 rfl 1 rfl ?_
    obtain ⟨w60, hw60, hf⟩ := x_bind hf
    refine x_callSi C dX8_stepCode_60 63 rfl (cX8_codeOfc hw60) kX8_codeOf ksX8_codeOf w1159 ⟨rfl, rfl⟩ ⟨Nat.le_of_ble_eq_true rfl, Nat.le_of_ble_eq_true rfl⟩ ⟨Nat.zero_le _, Nat.zero_le _⟩ rfl rfl (Nat.le_of_ble_eq_true rfl) ?_
    exact x_iret C (hE _ (Option.some.inj hf).symm) dX8_stepCode_63
  · subst e6
    try dsimp only at hf
    refine x_iconst C dX8_stepCode_79 80 rfl (-1) (by decide) ?_
    exact x_iret C (hE _ (Option.some.inj hf).symm) dX8_stepCode_80
