/-! methods: X10_part X10_replaced X11_back X8_isConstant X11_constant X11_fault X11_feedNumber X11_feed X11_image X11_said X11_saySign X11_sayWord X8_letterAtRank X11_say -/
theorem dX10_part_0 : decode cX10_part 0 = .ok (.lload_n 0, 1) := by decide +kernel
theorem dX10_part_1 : decode cX10_part 1 = .ok (.ldc2_w 15, 3) := by decide +kernel
theorem dX10_part_4 : decode cX10_part 4 = .ok (.land, 1) := by decide +kernel
theorem dX10_part_5 : decode cX10_part 5 = .ok (.iconst 3, 1) := by decide +kernel
theorem dX10_part_6 : decode cX10_part 6 = .ok (.iload_n 2, 1) := by decide +kernel
theorem dX10_part_7 : decode cX10_part 7 = .ok (.imul, 1) := by decide +kernel
theorem dX10_part_8 : decode cX10_part 8 = .ok (.lushr, 1) := by decide +kernel
theorem dX10_part_9 : decode cX10_part 9 = .ok (.lconst 1, 1) := by decide +kernel
theorem dX10_part_10 : decode cX10_part 10 = .ok (.iconst 3, 1) := by decide +kernel
theorem dX10_part_11 : decode cX10_part 11 = .ok (.iload_n 3, 1) := by decide +kernel
theorem dX10_part_12 : decode cX10_part 12 = .ok (.imul, 1) := by decide +kernel
theorem dX10_part_13 : decode cX10_part 13 = .ok (.lshl, 1) := by decide +kernel
theorem dX10_part_14 : decode cX10_part 14 = .ok (.lconst 1, 1) := by decide +kernel
theorem dX10_part_15 : decode cX10_part 15 = .ok (.lsub, 1) := by decide +kernel
theorem dX10_part_16 : decode cX10_part 16 = .ok (.land, 1) := by decide +kernel
theorem dX10_part_17 : decode cX10_part 17 = .ok (.lstore 4, 2) := by decide +kernel
theorem dX10_part_19 : decode cX10_part 19 = .ok (.lload 4, 2) := by decide +kernel
theorem dX10_part_21 : decode cX10_part 21 = .ok (.iload_n 3, 1) := by decide +kernel
theorem dX10_part_22 : decode cX10_part 22 = .ok (.i2l, 1) := by decide +kernel
theorem dX10_part_23 : decode cX10_part 23 = .ok (.bipush 48, 2) := by decide +kernel
theorem dX10_part_25 : decode cX10_part 25 = .ok (.lshl, 1) := by decide +kernel
theorem dX10_part_26 : decode cX10_part 26 = .ok (.lor, 1) := by decide +kernel
theorem dX10_part_27 : decode cX10_part 27 = .ok (.lreturn, 1) := by decide +kernel
abbrev rmX10_part : Room := { frames := 0, cells := 0, slots := 0, locals := 0 }
noncomputable def fX10_part (x0 : Int64) (x2 : Int32) (x3 : Int32) : Option (Int64) :=
xlet ((((x0 &&& 281474976710655).toUInt64 >>> ((3 * x2).toInt64.toUInt64 &&& Int64.toUInt64 63)).toInt64) &&& ((1 <<< ((3 * x3).toInt64 &&& 63)) - 1)) fun v17 =>
some (v17 ||| (x3.toInt64 <<< ((48 : Int32).toInt64 &&& 63)))
set_option maxHeartbeats 4000000 in
set_option maxRecDepth 100000 in
theorem cX10_partc {l : Launch} {G : xG} {A : Nat → Prop} {σ : St} {x0 : Int64} {x2 : Int32} {x3 : Int32} {c : Int64} (hf : fX10_part x0 x2 x3 = some c) : Con l yX10_part (xws yX10_part cX10_part 6 (some .long)) rmX10_part [.long (x0), .int (x2), .int (x3)] G A σ (some (.long c)) σ := by
  refine x_start rfl (Nat.le_of_ble_eq_true rfl) (fun X _ _ _ C hE0 => ?_)
  have hE : ∀ r, c = r → xE1 X (some (.long r)) σ := fun r e => e ▸ hE0
  show V X (0, 0) σ 0 [(0, .long (x0)), (2, .int (x2)), (3, .int (x3))] []
  unfold fX10_part at hf
  refine x_lload_n C dX10_part_0 1 rfl 0 rfl rfl ?_
  refine x_ldc2 C dX10_part_1 4 rfl w650 ?_
  refine x_land C dX10_part_4 5 rfl ?_
  refine x_iconst C dX10_part_5 6 rfl 3 (by decide) ?_
  refine x_iload_n C dX10_part_6 7 rfl 1 rfl rfl ?_
  refine x_imul C dX10_part_7 8 rfl ?_
  refine x_lushr C dX10_part_8 9 rfl ?_
  refine x_lconst C dX10_part_9 10 rfl 1 (by decide) ?_
  refine x_iconst C dX10_part_10 11 rfl 3 (by decide) ?_
  refine x_iload_n C dX10_part_11 12 rfl 2 rfl rfl ?_
  refine x_imul C dX10_part_12 13 rfl ?_
  refine x_lshl C dX10_part_13 14 rfl ?_
  refine x_lconst C dX10_part_14 15 rfl 1 (by decide) ?_
  refine x_lsub C dX10_part_15 16 rfl ?_
  refine x_land C dX10_part_16 17 rfl ?_
  obtain ⟨v17, ev17, hf⟩ := xlet_some hf
  refine x_topl ev17 ?_
  refine x_lstore C dX10_part_17 19 rfl rfl [(4, .long (v17)), (0, .long (x0)), (2, .int (x2)), (3, .int (x3))] rfl ?_
  refine x_lload C dX10_part_19 21 rfl 0 rfl ?_
  refine x_iload_n C dX10_part_21 22 rfl 3 rfl rfl ?_
  refine x_i2l C dX10_part_22 23 rfl ?_
  refine x_bipush C dX10_part_23 25 rfl 48 (by decide) ?_
  refine x_lshl C dX10_part_25 26 rfl ?_
  refine x_lor C dX10_part_26 27 rfl ?_
  exact x_lret C (hE _ (Option.some.inj hf).symm) dX10_part_27
theorem dX10_replaced_0 : decode cX10_replaced 0 = .ok (.lload_n 3, 1) := by decide +kernel
theorem dX10_replaced_1 : decode cX10_replaced 1 = .ok (.bipush 48, 2) := by decide +kernel
theorem dX10_replaced_3 : decode cX10_replaced 3 = .ok (.lushr, 1) := by decide +kernel
theorem dX10_replaced_4 : decode cX10_replaced 4 = .ok (.l2i, 1) := by decide +kernel
theorem dX10_replaced_5 : decode cX10_replaced 5 = .ok (.istore 7, 2) := by decide +kernel
theorem dX10_replaced_7 : decode cX10_replaced 7 = .ok (.lload 5, 2) := by decide +kernel
theorem dX10_replaced_9 : decode cX10_replaced 9 = .ok (.bipush 48, 2) := by decide +kernel
theorem dX10_replaced_11 : decode cX10_replaced 11 = .ok (.lushr, 1) := by decide +kernel
theorem dX10_replaced_12 : decode cX10_replaced 12 = .ok (.l2i, 1) := by decide +kernel
theorem dX10_replaced_13 : decode cX10_replaced 13 = .ok (.istore 8, 2) := by decide +kernel
theorem dX10_replaced_15 : decode cX10_replaced 15 = .ok (.lload_n 0, 1) := by decide +kernel
theorem dX10_replaced_16 : decode cX10_replaced 16 = .ok (.ldc2_w 15, 3) := by decide +kernel
theorem dX10_replaced_19 : decode cX10_replaced 19 = .ok (.land, 1) := by decide +kernel
theorem dX10_replaced_20 : decode cX10_replaced 20 = .ok (.lstore 9, 2) := by decide +kernel
theorem dX10_replaced_22 : decode cX10_replaced 22 = .ok (.lload 9, 2) := by decide +kernel
theorem dX10_replaced_24 : decode cX10_replaced 24 = .ok (.lconst 1, 1) := by decide +kernel
theorem dX10_replaced_25 : decode cX10_replaced 25 = .ok (.iconst 3, 1) := by decide +kernel
theorem dX10_replaced_26 : decode cX10_replaced 26 = .ok (.iload_n 2, 1) := by decide +kernel
theorem dX10_replaced_27 : decode cX10_replaced 27 = .ok (.imul, 1) := by decide +kernel
theorem dX10_replaced_28 : decode cX10_replaced 28 = .ok (.lshl, 1) := by decide +kernel
theorem dX10_replaced_29 : decode cX10_replaced 29 = .ok (.lconst 1, 1) := by decide +kernel
theorem dX10_replaced_30 : decode cX10_replaced 30 = .ok (.lsub, 1) := by decide +kernel
theorem dX10_replaced_31 : decode cX10_replaced 31 = .ok (.land, 1) := by decide +kernel
theorem dX10_replaced_32 : decode cX10_replaced 32 = .ok (.lstore 11, 2) := by decide +kernel
theorem dX10_replaced_34 : decode cX10_replaced 34 = .ok (.lload 9, 2) := by decide +kernel
theorem dX10_replaced_36 : decode cX10_replaced 36 = .ok (.iconst 3, 1) := by decide +kernel
theorem dX10_replaced_37 : decode cX10_replaced 37 = .ok (.iload_n 2, 1) := by decide +kernel
theorem dX10_replaced_38 : decode cX10_replaced 38 = .ok (.iload 7, 2) := by decide +kernel
theorem dX10_replaced_40 : decode cX10_replaced 40 = .ok (.iadd, 1) := by decide +kernel
theorem dX10_replaced_41 : decode cX10_replaced 41 = .ok (.imul, 1) := by decide +kernel
theorem dX10_replaced_42 : decode cX10_replaced 42 = .ok (.lushr, 1) := by decide +kernel
theorem dX10_replaced_43 : decode cX10_replaced 43 = .ok (.lstore 13, 2) := by decide +kernel
theorem dX10_replaced_45 : decode cX10_replaced 45 = .ok (.lload_n 0, 1) := by decide +kernel
theorem dX10_replaced_46 : decode cX10_replaced 46 = .ok (.bipush 48, 2) := by decide +kernel
theorem dX10_replaced_48 : decode cX10_replaced 48 = .ok (.lushr, 1) := by decide +kernel
theorem dX10_replaced_49 : decode cX10_replaced 49 = .ok (.iload 7, 2) := by decide +kernel
theorem dX10_replaced_51 : decode cX10_replaced 51 = .ok (.i2l, 1) := by decide +kernel
theorem dX10_replaced_52 : decode cX10_replaced 52 = .ok (.lsub, 1) := by decide +kernel
theorem dX10_replaced_53 : decode cX10_replaced 53 = .ok (.iload 8, 2) := by decide +kernel
theorem dX10_replaced_55 : decode cX10_replaced 55 = .ok (.i2l, 1) := by decide +kernel
theorem dX10_replaced_56 : decode cX10_replaced 56 = .ok (.ladd, 1) := by decide +kernel
theorem dX10_replaced_57 : decode cX10_replaced 57 = .ok (.lstore 15, 2) := by decide +kernel
theorem dX10_replaced_59 : decode cX10_replaced 59 = .ok (.lload 11, 2) := by decide +kernel
theorem dX10_replaced_61 : decode cX10_replaced 61 = .ok (.lload 5, 2) := by decide +kernel
theorem dX10_replaced_63 : decode cX10_replaced 63 = .ok (.ldc2_w 15, 3) := by decide +kernel
theorem dX10_replaced_66 : decode cX10_replaced 66 = .ok (.land, 1) := by decide +kernel
theorem dX10_replaced_67 : decode cX10_replaced 67 = .ok (.iconst 3, 1) := by decide +kernel
theorem dX10_replaced_68 : decode cX10_replaced 68 = .ok (.iload_n 2, 1) := by decide +kernel
theorem dX10_replaced_69 : decode cX10_replaced 69 = .ok (.imul, 1) := by decide +kernel
theorem dX10_replaced_70 : decode cX10_replaced 70 = .ok (.lshl, 1) := by decide +kernel
theorem dX10_replaced_71 : decode cX10_replaced 71 = .ok (.lor, 1) := by decide +kernel
theorem dX10_replaced_72 : decode cX10_replaced 72 = .ok (.lload 13, 2) := by decide +kernel
theorem dX10_replaced_74 : decode cX10_replaced 74 = .ok (.iconst 3, 1) := by decide +kernel
theorem dX10_replaced_75 : decode cX10_replaced 75 = .ok (.iload_n 2, 1) := by decide +kernel
theorem dX10_replaced_76 : decode cX10_replaced 76 = .ok (.iload 8, 2) := by decide +kernel
theorem dX10_replaced_78 : decode cX10_replaced 78 = .ok (.iadd, 1) := by decide +kernel
theorem dX10_replaced_79 : decode cX10_replaced 79 = .ok (.imul, 1) := by decide +kernel
theorem dX10_replaced_80 : decode cX10_replaced 80 = .ok (.lshl, 1) := by decide +kernel
theorem dX10_replaced_81 : decode cX10_replaced 81 = .ok (.lor, 1) := by decide +kernel
theorem dX10_replaced_82 : decode cX10_replaced 82 = .ok (.lload 15, 2) := by decide +kernel
theorem dX10_replaced_84 : decode cX10_replaced 84 = .ok (.bipush 48, 2) := by decide +kernel
theorem dX10_replaced_86 : decode cX10_replaced 86 = .ok (.lshl, 1) := by decide +kernel
theorem dX10_replaced_87 : decode cX10_replaced 87 = .ok (.lor, 1) := by decide +kernel
theorem dX10_replaced_88 : decode cX10_replaced 88 = .ok (.lreturn, 1) := by decide +kernel
abbrev rmX10_replaced : Room := { frames := 0, cells := 0, slots := 0, locals := 0 }
noncomputable def fX10_replaced (x0 : Int64) (x2 : Int32) (x3 : Int64) (x5 : Int64) : Option (Int64) :=
xlet (((x3.toUInt64 >>> ((48 : Int32).toInt64.toUInt64 &&& Int64.toUInt64 63)).toInt64).toInt32) fun v5 =>
xlet (((x5.toUInt64 >>> ((48 : Int32).toInt64.toUInt64 &&& Int64.toUInt64 63)).toInt64).toInt32) fun v13 =>
xlet (x0 &&& 281474976710655) fun v20 =>
xlet (v20 &&& ((1 <<< ((3 * x2).toInt64 &&& 63)) - 1)) fun v32 =>
xlet ((v20.toUInt64 >>> ((3 * (x2 + v5)).toInt64.toUInt64 &&& Int64.toUInt64 63)).toInt64) fun v43 =>
xlet ((((x0.toUInt64 >>> ((48 : Int32).toInt64.toUInt64 &&& Int64.toUInt64 63)).toInt64) - v5.toInt64) + v13.toInt64) fun v57 =>
some (((v32 ||| ((x5 &&& 281474976710655) <<< ((3 * x2).toInt64 &&& 63))) ||| (v43 <<< ((3 * (x2 + v13)).toInt64 &&& 63))) ||| (v57 <<< ((48 : Int32).toInt64 &&& 63)))
set_option maxHeartbeats 4000000 in
set_option maxRecDepth 100000 in
theorem cX10_replacedc {l : Launch} {G : xG} {A : Nat → Prop} {σ : St} {x0 : Int64} {x2 : Int32} {x3 : Int64} {x5 : Int64} {c : Int64} (hf : fX10_replaced x0 x2 x3 x5 = some c) : Con l yX10_replaced (xws yX10_replaced cX10_replaced 17 (some .long)) rmX10_replaced [.long (x0), .int (x2), .long (x3), .long (x5)] G A σ (some (.long c)) σ := by
  refine x_start rfl (Nat.le_of_ble_eq_true rfl) (fun X _ _ _ C hE0 => ?_)
  have hE : ∀ r, c = r → xE1 X (some (.long r)) σ := fun r e => e ▸ hE0
  show V X (0, 0) σ 0 [(0, .long (x0)), (2, .int (x2)), (3, .long (x3)), (5, .long (x5))] []
  unfold fX10_replaced at hf
  refine x_lload_n C dX10_replaced_0 1 rfl 2 rfl rfl ?_
  refine x_bipush C dX10_replaced_1 3 rfl 48 (by decide) ?_
  refine x_lushr C dX10_replaced_3 4 rfl ?_
  refine x_l2i C dX10_replaced_4 5 rfl ?_
  obtain ⟨v5, ev5, hf⟩ := xlet_some hf
  refine x_topi ev5 ?_
  refine x_istore C dX10_replaced_5 7 rfl rfl [(7, .int (v5)), (0, .long (x0)), (2, .int (x2)), (3, .long (x3)), (5, .long (x5))] rfl ?_
  refine x_lload C dX10_replaced_7 9 rfl 4 rfl ?_
  refine x_bipush C dX10_replaced_9 11 rfl 48 (by decide) ?_
  refine x_lushr C dX10_replaced_11 12 rfl ?_
  refine x_l2i C dX10_replaced_12 13 rfl ?_
  obtain ⟨v13, ev13, hf⟩ := xlet_some hf
  refine x_topi ev13 ?_
  refine x_istore C dX10_replaced_13 15 rfl rfl [(8, .int (v13)), (7, .int (v5)), (0, .long (x0)), (2, .int (x2)), (3, .long (x3)), (5, .long (x5))] rfl ?_
  refine x_lload_n C dX10_replaced_15 16 rfl 2 rfl rfl ?_
  refine x_ldc2 C dX10_replaced_16 19 rfl w650 ?_
  refine x_land C dX10_replaced_19 20 rfl ?_
  obtain ⟨v20, ev20, hf⟩ := xlet_some hf
  refine x_topl ev20 ?_
  refine x_lstore C dX10_replaced_20 22 rfl rfl [(9, .long (v20)), (8, .int (v13)), (7, .int (v5)), (0, .long (x0)), (2, .int (x2)), (3, .long (x3)), (5, .long (x5))] rfl ?_
  refine x_lload C dX10_replaced_22 24 rfl 0 rfl ?_
  refine x_lconst C dX10_replaced_24 25 rfl 1 (by decide) ?_
  refine x_iconst C dX10_replaced_25 26 rfl 3 (by decide) ?_
  refine x_iload_n C dX10_replaced_26 27 rfl 4 rfl rfl ?_
  refine x_imul C dX10_replaced_27 28 rfl ?_
  refine x_lshl C dX10_replaced_28 29 rfl ?_
  refine x_lconst C dX10_replaced_29 30 rfl 1 (by decide) ?_
  refine x_lsub C dX10_replaced_30 31 rfl ?_
  refine x_land C dX10_replaced_31 32 rfl ?_
  obtain ⟨v32, ev32, hf⟩ := xlet_some hf
  refine x_topl ev32 ?_
  refine x_lstore C dX10_replaced_32 34 rfl rfl [(11, .long (v32)), (9, .long (v20)), (8, .int (v13)), (7, .int (v5)), (0, .long (x0)), (2, .int (x2)), (3, .long (x3)), (5, .long (x5))] rfl ?_
  refine x_lload C dX10_replaced_34 36 rfl 1 rfl ?_
  refine x_iconst C dX10_replaced_36 37 rfl 3 (by decide) ?_
  refine x_iload_n C dX10_replaced_37 38 rfl 5 rfl rfl ?_
  refine x_iload C dX10_replaced_38 40 rfl 3 rfl ?_
  refine x_iadd C dX10_replaced_40 41 rfl ?_
  refine x_imul C dX10_replaced_41 42 rfl ?_
  refine x_lushr C dX10_replaced_42 43 rfl ?_
  obtain ⟨v43, ev43, hf⟩ := xlet_some hf
  refine x_topl ev43 ?_
  refine x_lstore C dX10_replaced_43 45 rfl rfl [(13, .long (v43)), (11, .long (v32)), (9, .long (v20)), (8, .int (v13)), (7, .int (v5)), (0, .long (x0)), (2, .int (x2)), (3, .long (x3)), (5, .long (x5))] rfl ?_
  refine x_lload_n C dX10_replaced_45 46 rfl 5 rfl rfl ?_
  refine x_bipush C dX10_replaced_46 48 rfl 48 (by decide) ?_
  refine x_lushr C dX10_replaced_48 49 rfl ?_
  refine x_iload C dX10_replaced_49 51 rfl 4 rfl ?_
  refine x_i2l C dX10_replaced_51 52 rfl ?_
  refine x_lsub C dX10_replaced_52 53 rfl ?_
  refine x_iload C dX10_replaced_53 55 rfl 3 rfl ?_
  refine x_i2l C dX10_replaced_55 56 rfl ?_
  refine x_ladd C dX10_replaced_56 57 rfl ?_
  obtain ⟨v57, ev57, hf⟩ := xlet_some hf
  refine x_topl ev57 ?_
  refine x_lstore C dX10_replaced_57 59 rfl rfl [(15, .long (v57)), (13, .long (v43)), (11, .long (v32)), (9, .long (v20)), (8, .int (v13)), (7, .int (v5)), (0, .long (x0)), (2, .int (x2)), (3, .long (x3)), (5, .long (x5))] rfl ?_
  refine x_lload C dX10_replaced_59 61 rfl 2 rfl ?_
  refine x_lload C dX10_replaced_61 63 rfl 9 rfl ?_
  refine x_ldc2 C dX10_replaced_63 66 rfl w650 ?_
  refine x_land C dX10_replaced_66 67 rfl ?_
  refine x_iconst C dX10_replaced_67 68 rfl 3 (by decide) ?_
  refine x_iload_n C dX10_replaced_68 69 rfl 7 rfl rfl ?_
  refine x_imul C dX10_replaced_69 70 rfl ?_
  refine x_lshl C dX10_replaced_70 71 rfl ?_
  refine x_lor C dX10_replaced_71 72 rfl ?_
  refine x_lload C dX10_replaced_72 74 rfl 1 rfl ?_
  refine x_iconst C dX10_replaced_74 75 rfl 3 (by decide) ?_
  refine x_iload_n C dX10_replaced_75 76 rfl 7 rfl rfl ?_
  refine x_iload C dX10_replaced_76 78 rfl 4 rfl ?_
  refine x_iadd C dX10_replaced_78 79 rfl ?_
  refine x_imul C dX10_replaced_79 80 rfl ?_
  refine x_lshl C dX10_replaced_80 81 rfl ?_
  refine x_lor C dX10_replaced_81 82 rfl ?_
  refine x_lload C dX10_replaced_82 84 rfl 0 rfl ?_
  refine x_bipush C dX10_replaced_84 86 rfl 48 (by decide) ?_
  refine x_lshl C dX10_replaced_86 87 rfl ?_
  refine x_lor C dX10_replaced_87 88 rfl ?_
  exact x_lret C (hE _ (Option.some.inj hf).symm) dX10_replaced_88
theorem dX11_back_0 : decode cX11_back 0 = .ok (.aload_n 0, 1) := by decide +kernel
theorem dX11_back_1 : decode cX11_back 1 = .ok (.getfield 30, 3) := by decide +kernel
theorem dX11_back_4 : decode cX11_back 4 = .ok (.ifCond .ne 5, 3) := by decide +kernel
theorem dX11_back_7 : decode cX11_back 7 = .ok (.iconst 0, 1) := by decide +kernel
theorem dX11_back_8 : decode cX11_back 8 = .ok (.ireturn, 1) := by decide +kernel
theorem dX11_back_9 : decode cX11_back 9 = .ok (.aload_n 0, 1) := by decide +kernel
theorem dX11_back_10 : decode cX11_back 10 = .ok (.getfield 23, 3) := by decide +kernel
theorem dX11_back_13 : decode cX11_back 13 = .ok (.aload_n 0, 1) := by decide +kernel
theorem dX11_back_14 : decode cX11_back 14 = .ok (.getfield 27, 3) := by decide +kernel
theorem dX11_back_17 : decode cX11_back 17 = .ok (.invokevirtual 402, 3) := by decide +kernel
theorem dX11_back_20 : decode cX11_back 20 = .ok (.aload_n 0, 1) := by decide +kernel
theorem dX11_back_21 : decode cX11_back 21 = .ok (.getfield 37, 3) := by decide +kernel
theorem dX11_back_24 : decode cX11_back 24 = .ok (.invokevirtual 145, 3) := by decide +kernel
theorem dX11_back_27 : decode cX11_back 27 = .ok (.iconst 1, 1) := by decide +kernel
theorem dX11_back_28 : decode cX11_back 28 = .ok (.ireturn, 1) := by decide +kernel
abbrev rmX11_back : Room := { frames := 3, cells := 0, slots := 0, locals := 102 }
noncomputable def fX11_back (σ : St) (x0 : Nat) : Option ((Int32 × St)) :=
(gI σ x0 10 5).bind fun v1 =>
if v1 = 0 then
(some (0, σ))
else
((gR σ x0 10 3).bind fun v10 =>
(gR σ x0 10 4).bind fun v14 =>
(isO σ v10 2).bind fun _ =>
(fX2_copyFrom σ v10 v14).bind fun w17 =>
(gR w17 x0 10 6).bind fun v21 =>
(isO w17 v21 0).bind fun _ =>
(fX0_forget w17 v21).bind fun w24 =>
some (1, w24))
set_option maxHeartbeats 4000000 in
set_option maxRecDepth 100000 in
theorem cX11_backc {l : Launch} {G : xG} {A : Nat → Prop} {σ : St} {x0 : Nat} {c : (Int32 × St)} (hf : fX11_back σ x0 = some c) : Con l yX11_back (xws yX11_back cX11_back 1 (some .boolean)) rmX11_back [.ref (x0)] G A σ (some (.int c.1)) c.2 := by
  refine x_start rfl (Nat.le_of_ble_eq_true rfl) (fun X _ _ _ C hE0 => ?_)
  have hE : ∀ r, c = r → xE1 X (some (.int r.1)) r.2 := fun r e => e ▸ hE0
  show V X (0, 0) σ 0 [(0, .ref (x0))] []
  unfold fX11_back at hf
  refine x_aload_n C dX11_back_0 1 rfl 0 rfl rfl ?_
  obtain ⟨v1, hv1, hf⟩ := x_bind hf
  refine x_getI C dX11_back_1 4 rfl hv1 cl10 rfl w520 ?_
  refine x_if_ne C dX11_back_4 9 (by decide) 7 rfl (fun hc => ?_) (fun hc => ?_)
  · have hf := (if_neg hc).symm.trans hf
    refine x_aload_n C dX11_back_9 10 rfl 0 rfl rfl ?_
    obtain ⟨v10, hv10, hf⟩ := x_bind hf
    refine x_getR C dX11_back_10 13 rfl hv10 cl10 rfl w518 ?_
    refine x_aload_n C dX11_back_13 14 rfl 0 rfl rfl ?_
    obtain ⟨v14, hv14, hf⟩ := x_bind hf
    refine x_getR C dX11_back_14 17 rfl hv14 cl10 rfl w519 ?_
    obtain ⟨o17, ho17, hf⟩ := x_bind hf
    obtain ⟨w17, hw17, hf⟩ := x_bind hf
    refine x_callVv C dX11_back_17 20 rfl ho17 cl2.1 rfl (cX2_copyFromc hw17) kX2_copyFrom kvX2_copyFrom w746 ⟨rfl, rfl⟩ ⟨Nat.le_of_ble_eq_true rfl, Nat.le_of_ble_eq_true rfl⟩ ⟨Nat.zero_le _, Nat.zero_le _⟩ rfl rfl (Nat.le_of_ble_eq_true rfl) ?_
    refine x_aload_n C dX11_back_20 21 rfl 0 rfl rfl ?_
    obtain ⟨v21, hv21, hf⟩ := x_bind hf
    refine x_getR C dX11_back_21 24 rfl hv21 cl10 rfl w521 ?_
    obtain ⟨o24, ho24, hf⟩ := x_bind hf
    obtain ⟨w24, hw24, hf⟩ := x_bind hf
    refine x_callVv C dX11_back_24 27 rfl ho24 cl0.1 rfl (cX0_forgetc hw24) kX0_forget kvX0_forget w751 ⟨rfl, rfl⟩ ⟨Nat.le_of_ble_eq_true rfl, Nat.le_of_ble_eq_true rfl⟩ ⟨Nat.zero_le _, Nat.zero_le _⟩ rfl rfl (Nat.le_of_ble_eq_true rfl) ?_
    refine x_iconst C dX11_back_27 28 rfl 1 (by decide) ?_
    exact x_zret C rfl (hE _ (Option.some.inj hf).symm) dX11_back_28
  · have hf := (if_pos hc).symm.trans hf
    refine x_iconst C dX11_back_7 8 rfl 0 (by decide) ?_
    exact x_zret C rfl (hE _ (Option.some.inj hf).symm) dX11_back_8
theorem dX8_isConstant_0 : decode cX8_isConstant 0 = .ok (.iconst 0, 1) := by decide +kernel
theorem dX8_isConstant_1 : decode cX8_isConstant 1 = .ok (.istore_n 2, 1) := by decide +kernel
theorem dX8_isConstant_2 : decode cX8_isConstant 2 = .ok (.iload_n 2, 1) := by decide +kernel
theorem dX8_isConstant_3 : decode cX8_isConstant 3 = .ok (.aload_n 0, 1) := by decide +kernel
theorem dX8_isConstant_4 : decode cX8_isConstant 4 = .ok (.getfield 15, 3) := by decide +kernel
theorem dX8_isConstant_7 : decode cX8_isConstant 7 = .ok (.if_icmp .ge 34, 3) := by decide +kernel
theorem dX8_isConstant_10 : decode cX8_isConstant 10 = .ok (.aload_n 0, 1) := by decide +kernel
theorem dX8_isConstant_11 : decode cX8_isConstant 11 = .ok (.getfield 18, 3) := by decide +kernel
theorem dX8_isConstant_14 : decode cX8_isConstant 14 = .ok (.iload_n 2, 1) := by decide +kernel
theorem dX8_isConstant_15 : decode cX8_isConstant 15 = .ok (.laload, 1) := by decide +kernel
theorem dX8_isConstant_16 : decode cX8_isConstant 16 = .ok (.iload_n 1, 1) := by decide +kernel
theorem dX8_isConstant_17 : decode cX8_isConstant 17 = .ok (.invokestatic 97, 3) := by decide +kernel
theorem dX8_isConstant_20 : decode cX8_isConstant 20 = .ok (.aload_n 0, 1) := by decide +kernel
theorem dX8_isConstant_21 : decode cX8_isConstant 21 = .ok (.getfield 22, 3) := by decide +kernel
theorem dX8_isConstant_24 : decode cX8_isConstant 24 = .ok (.iload_n 2, 1) := by decide +kernel
theorem dX8_isConstant_25 : decode cX8_isConstant 25 = .ok (.laload, 1) := by decide +kernel
theorem dX8_isConstant_26 : decode cX8_isConstant 26 = .ok (.iload_n 1, 1) := by decide +kernel
theorem dX8_isConstant_27 : decode cX8_isConstant 27 = .ok (.invokestatic 97, 3) := by decide +kernel
theorem dX8_isConstant_30 : decode cX8_isConstant 30 = .ok (.if_icmp .eq 5, 3) := by decide +kernel
theorem dX8_isConstant_33 : decode cX8_isConstant 33 = .ok (.iconst 0, 1) := by decide +kernel
theorem dX8_isConstant_34 : decode cX8_isConstant 34 = .ok (.ireturn, 1) := by decide +kernel
theorem dX8_isConstant_35 : decode cX8_isConstant 35 = .ok (.iinc 2 1, 3) := by decide +kernel
theorem dX8_isConstant_38 : decode cX8_isConstant 38 = .ok (.goto (-36), 3) := by decide +kernel
theorem dX8_isConstant_41 : decode cX8_isConstant 41 = .ok (.iconst 1, 1) := by decide +kernel
theorem dX8_isConstant_42 : decode cX8_isConstant 42 = .ok (.ireturn, 1) := by decide +kernel
abbrev rmX8_isConstant : Room := { frames := 2, cells := 0, slots := 0, locals := 46 }
noncomputable def fLX8_isConstant_2 (σ : St) (x0 : Nat) (x1 : Int32) (a : Int32) : Option ((Int32) ⊕ ((Unit) ⊕ (Unit))) :=
(gI σ x0 8 1).bind fun v4 =>
if v4 ≤ a then
(some (Sum.inr (Sum.inr ())))
else
((gR σ x0 8 2).bind fun v11 =>
(aL σ v11 a).bind fun v15 =>
(fX10_countOf v15 x1).bind fun w17 =>
(gR σ x0 8 3).bind fun v21 =>
(aL σ v21 a).bind fun v25 =>
(fX10_countOf v25 x1).bind fun w27 =>
if w17 = w27 then
(xlet (a + 1) fun v35 =>
some (Sum.inl v35))
else
(some (Sum.inr (Sum.inl ()))))
set_option maxHeartbeats 4000000 in
set_option maxRecDepth 100000 in
theorem lpX8_isConstant_2 {X : xX} {σ : St} {x0 : Nat} {x1 : Int32}  {a0 : Int32} {b : (Unit) ⊕ (Unit)} (C : Ok X cX8_isConstant 3 RX8 rmX8_isConstant (some .boolean)) (hb : iterP (fLX8_isConstant_2 σ x0 x1) a0 = some b) (hy0 : ∀ s, b = (Sum.inl s) → V X (0, 0) σ 33 [] []) (hy1 : ∀ s, b = (Sum.inr s) → V X (0, 0) σ 41 [] []) : V X (0, 0) σ 2 [(0, .ref (x0)), (1, .int (x1)), (2, .int (a0))] [] := by
  obtain ⟨n, hn⟩ := iterP_some hb
  refine x_loop (P := fun a => V X (0, 0) σ 2 [(0, .ref (x0)), (1, .int (x1)), (2, .int (a))] []) ?_ n a0 hn
  intro a c hf hK hxx
  have hx0 : ∀ s, c = Sum.inr (Sum.inl s) → V X (0, 0) σ 33 [] [] := fun s e => hy0 s (hxx _ e).symm
  have hx1 : ∀ s, c = Sum.inr (Sum.inr s) → V X (0, 0) σ 41 [] [] := fun s e => hy1 s (hxx _ e).symm
  unfold fLX8_isConstant_2 at hf
  refine x_iload_n C dX8_isConstant_2 3 rfl 2 rfl rfl ?_
  refine x_aload_n C dX8_isConstant_3 4 rfl 0 rfl rfl ?_
  obtain ⟨v4, hv4, hf⟩ := x_bind hf
  refine x_getI C dX8_isConstant_4 7 rfl hv4 cl8 rfl w182 ?_
  refine x_icmp_ge C dX8_isConstant_7 41 (by decide) 10 rfl (fun hc => ?_) (fun hc => ?_)
  · have hf := (if_pos hc).symm.trans hf
    refine x_lv [] (lv' := []) rfl ?_
    exact hx1 _ (Option.some.inj hf).symm
  · have hf := (if_neg hc).symm.trans hf
    refine x_aload_n C dX8_isConstant_10 11 rfl 0 rfl rfl ?_
    obtain ⟨v11, hv11, hf⟩ := x_bind hf
    refine x_getR C dX8_isConstant_11 14 rfl hv11 cl8 rfl w189 ?_
    refine x_iload_n C dX8_isConstant_14 15 rfl 2 rfl rfl ?_
    obtain ⟨v15, hv15, hf⟩ := x_bind hf
    refine x_laload C dX8_isConstant_15 16 rfl hv15 ?_
    refine x_iload_n C dX8_isConstant_16 17 rfl 1 rfl rfl ?_
    obtain ⟨w17, hw17, hf⟩ := x_bind hf
    refine x_callSi C dX8_isConstant_17 20 rfl (cX10_countOfc hw17) kX10_countOf ksX10_countOf w708 ⟨rfl, rfl⟩ ⟨Nat.le_of_ble_eq_true rfl, Nat.le_of_ble_eq_true rfl⟩ ⟨Nat.zero_le _, Nat.zero_le _⟩ rfl rfl (Nat.le_of_ble_eq_true rfl) ?_
    refine x_aload_n C dX8_isConstant_20 21 rfl 0 rfl rfl ?_
    obtain ⟨v21, hv21, hf⟩ := x_bind hf
    refine x_getR C dX8_isConstant_21 24 rfl hv21 cl8 rfl w196 ?_
    refine x_iload_n C dX8_isConstant_24 25 rfl 2 rfl rfl ?_
    obtain ⟨v25, hv25, hf⟩ := x_bind hf
    refine x_laload C dX8_isConstant_25 26 rfl hv25 ?_
    refine x_iload_n C dX8_isConstant_26 27 rfl 1 rfl rfl ?_
    obtain ⟨w27, hw27, hf⟩ := x_bind hf
    refine x_callSi C dX8_isConstant_27 30 rfl (cX10_countOfc hw27) kX10_countOf ksX10_countOf w708 ⟨rfl, rfl⟩ ⟨Nat.le_of_ble_eq_true rfl, Nat.le_of_ble_eq_true rfl⟩ ⟨Nat.zero_le _, Nat.zero_le _⟩ rfl rfl (Nat.le_of_ble_eq_true rfl) ?_
    refine x_icmp_eq C dX8_isConstant_30 35 (by decide) 33 rfl (fun hc => ?_) (fun hc => ?_)
    · have hf := (if_pos hc).symm.trans hf
      obtain ⟨v35, ev35, hf⟩ := xlet_some hf
      refine x_iinc C dX8_isConstant_35 38 rfl 2 rfl v35 ev35 rfl [(2, .int (v35)), (0, .ref (x0)), (1, .int (x1))] rfl ?_
      refine x_goto C dX8_isConstant_38 2 (by decide) ?_
      refine x_lv [1, 2, 0] (lv' := [(0, .ref (x0)), (1, .int (x1)), (2, .int (v35))]) rfl ?_
      exact hK _ (Option.some.inj hf).symm
    · have hf := (if_neg hc).symm.trans hf
      refine x_lv [] (lv' := []) rfl ?_
      exact hx0 _ (Option.some.inj hf).symm
noncomputable def fX8_isConstant (σ : St) (x0 : Nat) (x1 : Int32) : Option (Int32) :=
(iterP (fLX8_isConstant_2 σ x0 x1) 0).bind fun b2 =>
(match b2 with
| .inl s2 =>
some 0
| .inr s2 =>
some 1)
set_option maxHeartbeats 4000000 in
set_option maxRecDepth 100000 in
theorem cX8_isConstantc {l : Launch} {G : xG} {A : Nat → Prop} {σ : St} {x0 : Nat} {x1 : Int32} {c : Int32} (hf : fX8_isConstant σ x0 x1 = some c) : Con l yX8_isConstant (xws yX8_isConstant cX8_isConstant 3 (some .boolean)) rmX8_isConstant [.ref (x0), .int (x1)] G A σ (some (.int c)) σ := by
  refine x_start rfl (Nat.le_of_ble_eq_true rfl) (fun X _ _ _ C hE0 => ?_)
  have hE : ∀ r, c = r → xE1 X (some (.int r)) σ := fun r e => e ▸ hE0
  show V X (0, 0) σ 0 [(0, .ref (x0)), (1, .int (x1))] []
  unfold fX8_isConstant at hf
  refine x_iconst C dX8_isConstant_0 1 rfl 0 (by decide) ?_
  refine x_istore_n C dX8_isConstant_1 2 rfl rfl rfl [(2, .int (0)), (0, .ref (x0)), (1, .int (x1))] rfl ?_
  obtain ⟨b2, hb2, hf⟩ := x_bind hf
  refine x_lv [1, 2, 0] (lv' := [(0, .ref (x0)), (1, .int (x1)), (2, .int (0))]) rfl ?_
  refine lpX8_isConstant_2 C hb2 (fun s2 e2 => ?_) (fun s2 e2 => ?_)
  · subst e2
    try dsimp only at hf
    refine x_iconst C dX8_isConstant_33 34 rfl 0 (by decide) ?_
    exact x_zret C rfl (hE _ (Option.some.inj hf).symm) dX8_isConstant_34
  · subst e2
    try dsimp only at hf
    refine x_iconst C dX8_isConstant_41 42 rfl 1 (by decide) ?_
    exact x_zret C rfl (hE _ (Option.some.inj hf).symm) dX8_isConstant_42
theorem dX11_constant_0 : decode cX11_constant 0 = .ok (.iconst 0, 1) := by decide +kernel
theorem dX11_constant_1 : decode cX11_constant 1 = .ok (.istore_n 1, 1) := by decide +kernel
theorem dX11_constant_2 : decode cX11_constant 2 = .ok (.iconst 0, 1) := by decide +kernel
theorem dX11_constant_3 : decode cX11_constant 3 = .ok (.istore_n 2, 1) := by decide +kernel
theorem dX11_constant_4 : decode cX11_constant 4 = .ok (.iload_n 2, 1) := by decide +kernel
theorem dX11_constant_5 : decode cX11_constant 5 = .ok (.aload_n 0, 1) := by decide +kernel
theorem dX11_constant_6 : decode cX11_constant 6 = .ok (.getfield 23, 3) := by decide +kernel
theorem dX11_constant_9 : decode cX11_constant 9 = .ok (.getfield 52, 3) := by decide +kernel
theorem dX11_constant_12 : decode cX11_constant 12 = .ok (.getfield 151, 3) := by decide +kernel
theorem dX11_constant_15 : decode cX11_constant 15 = .ok (.if_icmp .ge 29, 3) := by decide +kernel
theorem dX11_constant_18 : decode cX11_constant 18 = .ok (.aload_n 0, 1) := by decide +kernel
theorem dX11_constant_19 : decode cX11_constant 19 = .ok (.getfield 23, 3) := by decide +kernel
theorem dX11_constant_22 : decode cX11_constant 22 = .ok (.getfield 52, 3) := by decide +kernel
theorem dX11_constant_25 : decode cX11_constant 25 = .ok (.iload_n 2, 1) := by decide +kernel
theorem dX11_constant_26 : decode cX11_constant 26 = .ok (.invokevirtual 347, 3) := by decide +kernel
theorem dX11_constant_29 : decode cX11_constant 29 = .ok (.ifCond .eq 9, 3) := by decide +kernel
theorem dX11_constant_32 : decode cX11_constant 32 = .ok (.iload_n 1, 1) := by decide +kernel
theorem dX11_constant_33 : decode cX11_constant 33 = .ok (.iconst 1, 1) := by decide +kernel
theorem dX11_constant_34 : decode cX11_constant 34 = .ok (.iload_n 2, 1) := by decide +kernel
theorem dX11_constant_35 : decode cX11_constant 35 = .ok (.ishl, 1) := by decide +kernel
theorem dX11_constant_36 : decode cX11_constant 36 = .ok (.ior, 1) := by decide +kernel
theorem dX11_constant_37 : decode cX11_constant 37 = .ok (.istore_n 1, 1) := by decide +kernel
theorem dX11_constant_38 : decode cX11_constant 38 = .ok (.iinc 2 1, 3) := by decide +kernel
theorem dX11_constant_41 : decode cX11_constant 41 = .ok (.goto (-37), 3) := by decide +kernel
theorem dX11_constant_44 : decode cX11_constant 44 = .ok (.iload_n 1, 1) := by decide +kernel
theorem dX11_constant_45 : decode cX11_constant 45 = .ok (.ireturn, 1) := by decide +kernel
abbrev rmX11_constant : Room := { frames := 3, cells := 0, slots := 0, locals := 68 }
noncomputable def fLX11_constant_4 (σ : St) (x0 : Nat) (a : Int32 × Int32) : Option ((Int32 × Int32) ⊕ (Int32)) :=
(gR σ x0 10 3).bind fun v6 =>
(gR σ v6 2 0).bind fun v9 =>
(gI σ v9 8 0).bind fun v12 =>
if v12 ≤ a.2 then
(some (Sum.inr a.1))
else
((gR σ x0 10 3).bind fun v19 =>
(gR σ v19 2 0).bind fun v22 =>
(isO σ v22 8).bind fun _ =>
(fX8_isConstant σ v22 a.2).bind fun w26 =>
if w26 = 0 then
(xlet (a.2 + 1) fun v38 =>
some (Sum.inl (a.1, v38)))
else
(xlet (a.1 ||| (1 <<< (a.2 &&& 31))) fun v37 =>
xlet (a.2 + 1) fun v38 =>
some (Sum.inl (v37, v38))))
set_option maxHeartbeats 4000000 in
set_option maxRecDepth 100000 in
theorem lpX11_constant_4 {X : xX} {σ : St} {x0 : Nat}  {a0 : Int32 × Int32} {b : Int32} (C : Ok X cX11_constant 3 RX11 rmX11_constant (some .int)) (hb : iterP (fLX11_constant_4 σ x0) a0 = some b) (hy0 : ∀ s, b = s → V X (0, 0) σ 44 [(1, .int (s))] []) : V X (0, 0) σ 4 [(0, .ref (x0)), (1, .int (a0.1)), (2, .int (a0.2))] [] := by
  obtain ⟨n, hn⟩ := iterP_some hb
  refine x_loop (P := fun a => V X (0, 0) σ 4 [(0, .ref (x0)), (1, .int (a.1)), (2, .int (a.2))] []) ?_ n a0 hn
  intro a c hf hK hxx
  have hx0 : ∀ s, c = Sum.inr s → V X (0, 0) σ 44 [(1, .int (s))] [] := fun s e => hy0 s (hxx _ e).symm
  unfold fLX11_constant_4 at hf
  refine x_iload_n C dX11_constant_4 5 rfl 2 rfl rfl ?_
  refine x_aload_n C dX11_constant_5 6 rfl 0 rfl rfl ?_
  obtain ⟨v6, hv6, hf⟩ := x_bind hf
  refine x_getR C dX11_constant_6 9 rfl hv6 cl10 rfl w518 ?_
  obtain ⟨v9, hv9, hf⟩ := x_bind hf
  refine x_getR C dX11_constant_9 12 rfl hv9 cl2 rfl w235 ?_
  obtain ⟨v12, hv12, hf⟩ := x_bind hf
  refine x_getI C dX11_constant_12 15 rfl hv12 cl8 rfl w180 ?_
  refine x_icmp_ge C dX11_constant_15 44 (by decide) 18 rfl (fun hc => ?_) (fun hc => ?_)
  · have hf := (if_pos hc).symm.trans hf
    refine x_lv [1] (lv' := [(1, .int (a.1))]) rfl ?_
    exact hx0 _ (Option.some.inj hf).symm
  · have hf := (if_neg hc).symm.trans hf
    refine x_aload_n C dX11_constant_18 19 rfl 0 rfl rfl ?_
    obtain ⟨v19, hv19, hf⟩ := x_bind hf
    refine x_getR C dX11_constant_19 22 rfl hv19 cl10 rfl w518 ?_
    obtain ⟨v22, hv22, hf⟩ := x_bind hf
    refine x_getR C dX11_constant_22 25 rfl hv22 cl2 rfl w235 ?_
    refine x_iload_n C dX11_constant_25 26 rfl 2 rfl rfl ?_
    obtain ⟨o26, ho26, hf⟩ := x_bind hf
    obtain ⟨w26, hw26, hf⟩ := x_bind hf
    refine x_callVi C dX11_constant_26 29 rfl ho26 cl8.1 rfl (cX8_isConstantc hw26) kX8_isConstant kvX8_isConstant w704 ⟨rfl, rfl⟩ ⟨Nat.le_of_ble_eq_true rfl, Nat.le_of_ble_eq_true rfl⟩ ⟨Nat.zero_le _, Nat.zero_le _⟩ rfl rfl (Nat.le_of_ble_eq_true rfl) ?_
    refine x_if_eq C dX11_constant_29 38 (by decide) 32 rfl (fun hc => ?_) (fun hc => ?_)
    · have hf := (if_pos hc).symm.trans hf
      obtain ⟨v38, ev38, hf⟩ := xlet_some hf
      refine x_iinc C dX11_constant_38 41 rfl 2 rfl v38 ev38 rfl [(2, .int (v38)), (0, .ref (x0)), (1, .int (a.1))] rfl ?_
      refine x_goto C dX11_constant_41 4 (by decide) ?_
      refine x_lv [1, 2, 0] (lv' := [(0, .ref (x0)), (1, .int (a.1)), (2, .int (v38))]) rfl ?_
      exact hK _ (Option.some.inj hf).symm
    · have hf := (if_neg hc).symm.trans hf
      refine x_iload_n C dX11_constant_32 33 rfl 1 rfl rfl ?_
      refine x_iconst C dX11_constant_33 34 rfl 1 (by decide) ?_
      refine x_iload_n C dX11_constant_34 35 rfl 2 rfl rfl ?_
      refine x_ishl C dX11_constant_35 36 rfl ?_
      refine x_ior C dX11_constant_36 37 rfl ?_
      obtain ⟨v37, ev37, hf⟩ := xlet_some hf
      refine x_topi ev37 ?_
      refine x_istore_n C dX11_constant_37 38 rfl rfl rfl [(1, .int (v37)), (0, .ref (x0)), (2, .int (a.2))] rfl ?_
      obtain ⟨v38, ev38, hf⟩ := xlet_some hf
      refine x_iinc C dX11_constant_38 41 rfl 2 rfl v38 ev38 rfl [(2, .int (v38)), (1, .int (v37)), (0, .ref (x0))] rfl ?_
      refine x_goto C dX11_constant_41 4 (by decide) ?_
      refine x_lv [2, 1, 0] (lv' := [(0, .ref (x0)), (1, .int (v37)), (2, .int (v38))]) rfl ?_
      exact hK _ (Option.some.inj hf).symm
noncomputable def fX11_constant (σ : St) (x0 : Nat) : Option (Int32) :=
(iterP (fLX11_constant_4 σ x0) (0, 0)).bind fun b4 =>
some b4
set_option maxHeartbeats 4000000 in
set_option maxRecDepth 100000 in
theorem cX11_constantc {l : Launch} {G : xG} {A : Nat → Prop} {σ : St} {x0 : Nat} {c : Int32} (hf : fX11_constant σ x0 = some c) : Con l yX11_constant (xws yX11_constant cX11_constant 3 (some .int)) rmX11_constant [.ref (x0)] G A σ (some (.int c)) σ := by
  refine x_start rfl (Nat.le_of_ble_eq_true rfl) (fun X _ _ _ C hE0 => ?_)
  have hE : ∀ r, c = r → xE1 X (some (.int r)) σ := fun r e => e ▸ hE0
  show V X (0, 0) σ 0 [(0, .ref (x0))] []
  unfold fX11_constant at hf
  refine x_iconst C dX11_constant_0 1 rfl 0 (by decide) ?_
  refine x_istore_n C dX11_constant_1 2 rfl rfl rfl [(1, .int (0)), (0, .ref (x0))] rfl ?_
  refine x_iconst C dX11_constant_2 3 rfl 0 (by decide) ?_
  refine x_istore_n C dX11_constant_3 4 rfl rfl rfl [(2, .int (0)), (1, .int (0)), (0, .ref (x0))] rfl ?_
  obtain ⟨b4, hb4, hf⟩ := x_bind hf
  refine x_lv [2, 1, 0] (lv' := [(0, .ref (x0)), (1, .int (0)), (2, .int (0))]) rfl ?_
  refine lpX11_constant_4 C hb4 (fun s4 e4 => ?_)
  subst e4
  refine x_iload_n C dX11_constant_44 45 rfl 0 rfl rfl ?_
  exact x_iret C (hE _ (Option.some.inj hf).symm) dX11_constant_45
theorem dX11_fault_0 : decode cX11_fault 0 = .ok (.aload_n 0, 1) := by decide +kernel
theorem dX11_fault_1 : decode cX11_fault 1 = .ok (.getfield 17, 3) := by decide +kernel
theorem dX11_fault_4 : decode cX11_fault 4 = .ok (.ireturn, 1) := by decide +kernel
abbrev rmX11_fault : Room := { frames := 0, cells := 0, slots := 0, locals := 0 }
noncomputable def fX11_fault (σ : St) (x0 : Nat) : Option (Int32) :=
(gI σ x0 10 2).bind fun v1 =>
some v1
set_option maxHeartbeats 4000000 in
set_option maxRecDepth 100000 in
theorem cX11_faultc {l : Launch} {G : xG} {A : Nat → Prop} {σ : St} {x0 : Nat} {c : Int32} (hf : fX11_fault σ x0 = some c) : Con l yX11_fault (xws yX11_fault cX11_fault 1 (some .int)) rmX11_fault [.ref (x0)] G A σ (some (.int c)) σ := by
  refine x_start rfl (Nat.le_of_ble_eq_true rfl) (fun X _ _ _ C hE0 => ?_)
  have hE : ∀ r, c = r → xE1 X (some (.int r)) σ := fun r e => e ▸ hE0
  show V X (0, 0) σ 0 [(0, .ref (x0))] []
  unfold fX11_fault at hf
  refine x_aload_n C dX11_fault_0 1 rfl 0 rfl rfl ?_
  obtain ⟨v1, hv1, hf⟩ := x_bind hf
  refine x_getI C dX11_fault_1 4 rfl hv1 cl10 rfl w517 ?_
  exact x_iret C (hE _ (Option.some.inj hf).symm) dX11_fault_4
theorem dX11_feedNumber_0 : decode cX11_feedNumber 0 = .ok (.bipush 24, 2) := by decide +kernel
theorem dX11_feedNumber_2 : decode cX11_feedNumber 2 = .ok (.istore_n 2, 1) := by decide +kernel
theorem dX11_feedNumber_3 : decode cX11_feedNumber 3 = .ok (.iload_n 2, 1) := by decide +kernel
theorem dX11_feedNumber_4 : decode cX11_feedNumber 4 = .ok (.ifCond .lt 45, 3) := by decide +kernel
theorem dX11_feedNumber_7 : decode cX11_feedNumber 7 = .ok (.aload_n 0, 1) := by decide +kernel
theorem dX11_feedNumber_8 : decode cX11_feedNumber 8 = .ok (.getfield 13, 3) := by decide +kernel
theorem dX11_feedNumber_11 : decode cX11_feedNumber 11 = .ok (.sipush 300, 3) := by decide +kernel
theorem dX11_feedNumber_14 : decode cX11_feedNumber 14 = .ok (.if_icmp .ge 35, 3) := by decide +kernel
theorem dX11_feedNumber_17 : decode cX11_feedNumber 17 = .ok (.aload_n 0, 1) := by decide +kernel
theorem dX11_feedNumber_18 : decode cX11_feedNumber 18 = .ok (.getfield 9, 3) := by decide +kernel
theorem dX11_feedNumber_21 : decode cX11_feedNumber 21 = .ok (.aload_n 0, 1) := by decide +kernel
theorem dX11_feedNumber_22 : decode cX11_feedNumber 22 = .ok (.getfield 13, 3) := by decide +kernel
theorem dX11_feedNumber_25 : decode cX11_feedNumber 25 = .ok (.iload_n 1, 1) := by decide +kernel
theorem dX11_feedNumber_26 : decode cX11_feedNumber 26 = .ok (.iload_n 2, 1) := by decide +kernel
theorem dX11_feedNumber_27 : decode cX11_feedNumber 27 = .ok (.iushr, 1) := by decide +kernel
theorem dX11_feedNumber_28 : decode cX11_feedNumber 28 = .ok (.sipush 255, 3) := by decide +kernel
theorem dX11_feedNumber_31 : decode cX11_feedNumber 31 = .ok (.iand, 1) := by decide +kernel
theorem dX11_feedNumber_32 : decode cX11_feedNumber 32 = .ok (.iastore, 1) := by decide +kernel
theorem dX11_feedNumber_33 : decode cX11_feedNumber 33 = .ok (.aload_n 0, 1) := by decide +kernel
theorem dX11_feedNumber_34 : decode cX11_feedNumber 34 = .ok (.dup, 1) := by decide +kernel
theorem dX11_feedNumber_35 : decode cX11_feedNumber 35 = .ok (.getfield 13, 3) := by decide +kernel
theorem dX11_feedNumber_38 : decode cX11_feedNumber 38 = .ok (.iconst 1, 1) := by decide +kernel
theorem dX11_feedNumber_39 : decode cX11_feedNumber 39 = .ok (.iadd, 1) := by decide +kernel
theorem dX11_feedNumber_40 : decode cX11_feedNumber 40 = .ok (.putfield 13, 3) := by decide +kernel
theorem dX11_feedNumber_43 : decode cX11_feedNumber 43 = .ok (.iinc 2 (-8), 3) := by decide +kernel
theorem dX11_feedNumber_46 : decode cX11_feedNumber 46 = .ok (.goto (-43), 3) := by decide +kernel
theorem dX11_feedNumber_49 : decode cX11_feedNumber 49 = .ok (.return_, 1) := by decide +kernel
abbrev rmX11_feedNumber : Room := { frames := 0, cells := 0, slots := 0, locals := 0 }
noncomputable def fLX11_feedNumber_3 (x0 : Nat) (x1 : Int32) (a : Int32 × St) : Option ((Int32 × St) ⊕ (St)) :=
if a.1 < 0 then
(some (Sum.inr a.2))
else
((gI a.2 x0 10 1).bind fun v8 =>
if ((300 : Int32)) ≤ v8 then
(some (Sum.inr a.2))
else
((gR a.2 x0 10 0).bind fun v18 =>
(gI a.2 x0 10 1).bind fun v22 =>
(sI a.2 v18 v22 (((x1.toUInt32 >>> (a.1.toUInt32 &&& Int32.toUInt32 31)).toInt32) &&& 255)).bind fun σ32 =>
(gI σ32 x0 10 1).bind fun v35 =>
(wrF σ32 x0 10 1 (.int (v35 + 1))).bind fun σ40 =>
xlet (a.1 + (-8)) fun v43 =>
some (Sum.inl (v43, σ40))))
set_option maxHeartbeats 4000000 in
set_option maxRecDepth 100000 in
theorem lpX11_feedNumber_3 {X : xX} {x0 : Nat} {x1 : Int32}  {a0 : Int32 × St} {b : St} (C : Ok X cX11_feedNumber 3 RX11 rmX11_feedNumber none) (hb : iterP (fLX11_feedNumber_3 x0 x1) a0 = some b) (hy0 : ∀ s, b = s → V X (0, 0) s 49 [] []) : V X (0, 0) a0.2 3 [(0, .ref (x0)), (1, .int (x1)), (2, .int (a0.1))] [] := by
  obtain ⟨n, hn⟩ := iterP_some hb
  refine x_loop (P := fun a => V X (0, 0) a.2 3 [(0, .ref (x0)), (1, .int (x1)), (2, .int (a.1))] []) ?_ n a0 hn
  intro a c hf hK hxx
  have hx0 : ∀ s, c = Sum.inr s → V X (0, 0) s 49 [] [] := fun s e => hy0 s (hxx _ e).symm
  unfold fLX11_feedNumber_3 at hf
  refine x_iload_n C dX11_feedNumber_3 4 rfl 2 rfl rfl ?_
  refine x_if_lt C dX11_feedNumber_4 49 (by decide) 7 rfl (fun hc => ?_) (fun hc => ?_)
  · have hf := (if_pos hc).symm.trans hf
    refine x_lv [] (lv' := []) rfl ?_
    exact hx0 _ (Option.some.inj hf).symm
  · have hf := (if_neg hc).symm.trans hf
    refine x_aload_n C dX11_feedNumber_7 8 rfl 0 rfl rfl ?_
    obtain ⟨v8, hv8, hf⟩ := x_bind hf
    refine x_getI C dX11_feedNumber_8 11 rfl hv8 cl10 rfl w516 ?_
    refine x_sipush C dX11_feedNumber_11 14 rfl 300 (by decide) ?_
    refine x_icmp_ge C dX11_feedNumber_14 49 (by decide) 17 rfl (fun hc => ?_) (fun hc => ?_)
    · have hf := (if_pos hc).symm.trans hf
      refine x_lv [] (lv' := []) rfl ?_
      exact hx0 _ (Option.some.inj hf).symm
    · have hf := (if_neg hc).symm.trans hf
      refine x_aload_n C dX11_feedNumber_17 18 rfl 0 rfl rfl ?_
      obtain ⟨v18, hv18, hf⟩ := x_bind hf
      refine x_getR C dX11_feedNumber_18 21 rfl hv18 cl10 rfl w515 ?_
      refine x_aload_n C dX11_feedNumber_21 22 rfl 0 rfl rfl ?_
      obtain ⟨v22, hv22, hf⟩ := x_bind hf
      refine x_getI C dX11_feedNumber_22 25 rfl hv22 cl10 rfl w516 ?_
      refine x_iload_n C dX11_feedNumber_25 26 rfl 1 rfl rfl ?_
      refine x_iload_n C dX11_feedNumber_26 27 rfl 2 rfl rfl ?_
      refine x_iushr C dX11_feedNumber_27 28 rfl ?_
      refine x_sipush C dX11_feedNumber_28 31 rfl 255 (by decide) ?_
      refine x_iand C dX11_feedNumber_31 32 rfl ?_
      obtain ⟨σ32, hσ32, hf⟩ := x_bind hf
      refine x_iastore C dX11_feedNumber_32 33 rfl hσ32 ?_
      refine x_aload_n C dX11_feedNumber_33 34 rfl 0 rfl rfl ?_
      refine x_dup C dX11_feedNumber_34 35 rfl rfl ?_
      obtain ⟨v35, hv35, hf⟩ := x_bind hf
      refine x_getI C dX11_feedNumber_35 38 rfl hv35 cl10 rfl w516 ?_
      refine x_iconst C dX11_feedNumber_38 39 rfl 1 (by decide) ?_
      refine x_iadd C dX11_feedNumber_39 40 rfl ?_
      obtain ⟨σ40, hσ40, hf⟩ := x_bind hf
      refine x_putX C dX11_feedNumber_40 43 rfl hσ40 cl10 rfl w516 rfl rfl rfl ?_
      obtain ⟨v43, ev43, hf⟩ := xlet_some hf
      refine x_iinc C dX11_feedNumber_43 46 rfl 2 rfl v43 ev43 rfl [(2, .int (v43)), (0, .ref (x0)), (1, .int (x1))] rfl ?_
      refine x_goto C dX11_feedNumber_46 3 (by decide) ?_
      refine x_lv [1, 2, 0] (lv' := [(0, .ref (x0)), (1, .int (x1)), (2, .int (v43))]) rfl ?_
      exact hK _ (Option.some.inj hf).symm
noncomputable def fX11_feedNumber (σ : St) (x0 : Nat) (x1 : Int32) : Option (St) :=
(iterP (fLX11_feedNumber_3 x0 x1) (24, σ)).bind fun b3 =>
some b3
set_option maxHeartbeats 4000000 in
set_option maxRecDepth 100000 in
theorem cX11_feedNumberc {l : Launch} {G : xG} {A : Nat → Prop} {σ : St} {x0 : Nat} {x1 : Int32} {c : St} (hf : fX11_feedNumber σ x0 x1 = some c) : Con l yX11_feedNumber (xws yX11_feedNumber cX11_feedNumber 3 none) rmX11_feedNumber [.ref (x0), .int (x1)] G A σ none c := by
  refine x_start rfl (Nat.le_of_ble_eq_true rfl) (fun X _ _ _ C hE0 => ?_)
  have hE : ∀ r, c = r → xE1 X none r := fun r e => e ▸ hE0
  show V X (0, 0) σ 0 [(0, .ref (x0)), (1, .int (x1))] []
  unfold fX11_feedNumber at hf
  refine x_bipush C dX11_feedNumber_0 2 rfl 24 (by decide) ?_
  refine x_istore_n C dX11_feedNumber_2 3 rfl rfl rfl [(2, .int (24)), (0, .ref (x0)), (1, .int (x1))] rfl ?_
  obtain ⟨b3, hb3, hf⟩ := x_bind hf
  refine x_lv [1, 2, 0] (lv' := [(0, .ref (x0)), (1, .int (x1)), (2, .int (24))]) rfl ?_
  refine lpX11_feedNumber_3 C hb3 (fun s3 e3 => ?_)
  subst e3
  exact x_vret C (hE _ (Option.some.inj hf).symm) dX11_feedNumber_49
theorem dX11_feed_0 : decode cX11_feed 0 = .ok (.aload_n 0, 1) := by decide +kernel
theorem dX11_feed_1 : decode cX11_feed 1 = .ok (.getfield 13, 3) := by decide +kernel
theorem dX11_feed_4 : decode cX11_feed 4 = .ok (.bipush 20, 2) := by decide +kernel
theorem dX11_feed_6 : decode cX11_feed 6 = .ok (.iadd, 1) := by decide +kernel
theorem dX11_feed_7 : decode cX11_feed 7 = .ok (.sipush 300, 3) := by decide +kernel
theorem dX11_feed_10 : decode cX11_feed 10 = .ok (.if_icmp .le 5, 3) := by decide +kernel
theorem dX11_feed_13 : decode cX11_feed 13 = .ok (.iconst (-1), 1) := by decide +kernel
theorem dX11_feed_14 : decode cX11_feed 14 = .ok (.ireturn, 1) := by decide +kernel
theorem dX11_feed_15 : decode cX11_feed 15 = .ok (.aload_n 0, 1) := by decide +kernel
theorem dX11_feed_16 : decode cX11_feed 16 = .ok (.iload_n 1, 1) := by decide +kernel
theorem dX11_feed_17 : decode cX11_feed 17 = .ok (.invokevirtual 122, 3) := by decide +kernel
theorem dX11_feed_20 : decode cX11_feed 20 = .ok (.aload_n 0, 1) := by decide +kernel
theorem dX11_feed_21 : decode cX11_feed 21 = .ok (.iload_n 2, 1) := by decide +kernel
theorem dX11_feed_22 : decode cX11_feed 22 = .ok (.invokevirtual 122, 3) := by decide +kernel
theorem dX11_feed_25 : decode cX11_feed 25 = .ok (.aload_n 0, 1) := by decide +kernel
theorem dX11_feed_26 : decode cX11_feed 26 = .ok (.iload_n 3, 1) := by decide +kernel
theorem dX11_feed_27 : decode cX11_feed 27 = .ok (.invokevirtual 122, 3) := by decide +kernel
theorem dX11_feed_30 : decode cX11_feed 30 = .ok (.aload_n 0, 1) := by decide +kernel
theorem dX11_feed_31 : decode cX11_feed 31 = .ok (.iload 4, 2) := by decide +kernel
theorem dX11_feed_33 : decode cX11_feed 33 = .ok (.invokevirtual 122, 3) := by decide +kernel
theorem dX11_feed_36 : decode cX11_feed 36 = .ok (.aload_n 0, 1) := by decide +kernel
theorem dX11_feed_37 : decode cX11_feed 37 = .ok (.iload 5, 2) := by decide +kernel
theorem dX11_feed_39 : decode cX11_feed 39 = .ok (.invokevirtual 122, 3) := by decide +kernel
theorem dX11_feed_42 : decode cX11_feed 42 = .ok (.aload_n 0, 1) := by decide +kernel
theorem dX11_feed_43 : decode cX11_feed 43 = .ok (.getfield 13, 3) := by decide +kernel
theorem dX11_feed_46 : decode cX11_feed 46 = .ok (.ireturn, 1) := by decide +kernel
abbrev rmX11_feed : Room := { frames := 1, cells := 0, slots := 0, locals := 22 }
noncomputable def fX11_feed (σ : St) (x0 : Nat) (x1 : Int32) (x2 : Int32) (x3 : Int32) (x4 : Int32) (x5 : Int32) : Option ((Int32 × St)) :=
(gI σ x0 10 1).bind fun v1 =>
if (v1 + 20) ≤ ((300 : Int32)) then
((isO σ x0 10).bind fun _ =>
(fX11_feedNumber σ x0 x1).bind fun w17 =>
(isO w17 x0 10).bind fun _ =>
(fX11_feedNumber w17 x0 x2).bind fun w22 =>
(isO w22 x0 10).bind fun _ =>
(fX11_feedNumber w22 x0 x3).bind fun w27 =>
(isO w27 x0 10).bind fun _ =>
(fX11_feedNumber w27 x0 x4).bind fun w33 =>
(isO w33 x0 10).bind fun _ =>
(fX11_feedNumber w33 x0 x5).bind fun w39 =>
(gI w39 x0 10 1).bind fun v43 =>
some (v43, w39))
else
(some ((-1), σ))
set_option maxHeartbeats 4000000 in
set_option maxRecDepth 100000 in
theorem cX11_feedc {l : Launch} {G : xG} {A : Nat → Prop} {σ : St} {x0 : Nat} {x1 : Int32} {x2 : Int32} {x3 : Int32} {x4 : Int32} {x5 : Int32} {c : (Int32 × St)} (hf : fX11_feed σ x0 x1 x2 x3 x4 x5 = some c) : Con l yX11_feed (xws yX11_feed cX11_feed 6 (some .int)) rmX11_feed [.ref (x0), .int (x1), .int (x2), .int (x3), .int (x4), .int (x5)] G A σ (some (.int c.1)) c.2 := by
  refine x_start rfl (Nat.le_of_ble_eq_true rfl) (fun X _ _ _ C hE0 => ?_)
  have hE : ∀ r, c = r → xE1 X (some (.int r.1)) r.2 := fun r e => e ▸ hE0
  show V X (0, 0) σ 0 [(0, .ref (x0)), (1, .int (x1)), (2, .int (x2)), (3, .int (x3)), (4, .int (x4)), (5, .int (x5))] []
  unfold fX11_feed at hf
  refine x_aload_n C dX11_feed_0 1 rfl 0 rfl rfl ?_
  obtain ⟨v1, hv1, hf⟩ := x_bind hf
  refine x_getI C dX11_feed_1 4 rfl hv1 cl10 rfl w516 ?_
  refine x_bipush C dX11_feed_4 6 rfl 20 (by decide) ?_
  refine x_iadd C dX11_feed_6 7 rfl ?_
  refine x_sipush C dX11_feed_7 10 rfl 300 (by decide) ?_
  refine x_icmp_le C dX11_feed_10 15 (by decide) 13 rfl (fun hc => ?_) (fun hc => ?_)
  · have hf := (if_pos hc).symm.trans hf
    refine x_aload_n C dX11_feed_15 16 rfl 0 rfl rfl ?_
    refine x_iload_n C dX11_feed_16 17 rfl 1 rfl rfl ?_
    obtain ⟨o17, ho17, hf⟩ := x_bind hf
    obtain ⟨w17, hw17, hf⟩ := x_bind hf
    refine x_callVv C dX11_feed_17 20 rfl ho17 cl10.1 rfl (cX11_feedNumberc hw17) kX11_feedNumber kvX11_feedNumber w580 ⟨rfl, rfl⟩ ⟨Nat.le_of_ble_eq_true rfl, Nat.le_of_ble_eq_true rfl⟩ ⟨Nat.zero_le _, Nat.zero_le _⟩ rfl rfl (Nat.le_of_ble_eq_true rfl) ?_
    refine x_aload_n C dX11_feed_20 21 rfl 0 rfl rfl ?_
    refine x_iload_n C dX11_feed_21 22 rfl 2 rfl rfl ?_
    obtain ⟨o22, ho22, hf⟩ := x_bind hf
    obtain ⟨w22, hw22, hf⟩ := x_bind hf
    refine x_callVv C dX11_feed_22 25 rfl ho22 cl10.1 rfl (cX11_feedNumberc hw22) kX11_feedNumber kvX11_feedNumber w580 ⟨rfl, rfl⟩ ⟨Nat.le_of_ble_eq_true rfl, Nat.le_of_ble_eq_true rfl⟩ ⟨Nat.zero_le _, Nat.zero_le _⟩ rfl rfl (Nat.le_of_ble_eq_true rfl) ?_
    refine x_aload_n C dX11_feed_25 26 rfl 0 rfl rfl ?_
    refine x_iload_n C dX11_feed_26 27 rfl 3 rfl rfl ?_
    obtain ⟨o27, ho27, hf⟩ := x_bind hf
    obtain ⟨w27, hw27, hf⟩ := x_bind hf
    refine x_callVv C dX11_feed_27 30 rfl ho27 cl10.1 rfl (cX11_feedNumberc hw27) kX11_feedNumber kvX11_feedNumber w580 ⟨rfl, rfl⟩ ⟨Nat.le_of_ble_eq_true rfl, Nat.le_of_ble_eq_true rfl⟩ ⟨Nat.zero_le _, Nat.zero_le _⟩ rfl rfl (Nat.le_of_ble_eq_true rfl) ?_
    refine x_aload_n C dX11_feed_30 31 rfl 0 rfl rfl ?_
    refine x_iload C dX11_feed_31 33 rfl 4 rfl ?_
    obtain ⟨o33, ho33, hf⟩ := x_bind hf
    obtain ⟨w33, hw33, hf⟩ := x_bind hf
    refine x_callVv C dX11_feed_33 36 rfl ho33 cl10.1 rfl (cX11_feedNumberc hw33) kX11_feedNumber kvX11_feedNumber w580 ⟨rfl, rfl⟩ ⟨Nat.le_of_ble_eq_true rfl, Nat.le_of_ble_eq_true rfl⟩ ⟨Nat.zero_le _, Nat.zero_le _⟩ rfl rfl (Nat.le_of_ble_eq_true rfl) ?_
    refine x_aload_n C dX11_feed_36 37 rfl 0 rfl rfl ?_
    refine x_iload C dX11_feed_37 39 rfl 5 rfl ?_
    obtain ⟨o39, ho39, hf⟩ := x_bind hf
    obtain ⟨w39, hw39, hf⟩ := x_bind hf
    refine x_callVv C dX11_feed_39 42 rfl ho39 cl10.1 rfl (cX11_feedNumberc hw39) kX11_feedNumber kvX11_feedNumber w580 ⟨rfl, rfl⟩ ⟨Nat.le_of_ble_eq_true rfl, Nat.le_of_ble_eq_true rfl⟩ ⟨Nat.zero_le _, Nat.zero_le _⟩ rfl rfl (Nat.le_of_ble_eq_true rfl) ?_
    refine x_aload_n C dX11_feed_42 43 rfl 0 rfl rfl ?_
    obtain ⟨v43, hv43, hf⟩ := x_bind hf
    refine x_getI C dX11_feed_43 46 rfl hv43 cl10 rfl w516 ?_
    exact x_iret C (hE _ (Option.some.inj hf).symm) dX11_feed_46
  · have hf := (if_neg hc).symm.trans hf
    refine x_iconst C dX11_feed_13 14 rfl (-1) (by decide) ?_
    exact x_iret C (hE _ (Option.some.inj hf).symm) dX11_feed_14
theorem dX11_image_0 : decode cX11_image 0 = .ok (.aload_n 0, 1) := by decide +kernel
theorem dX11_image_1 : decode cX11_image 1 = .ok (.getfield 27, 3) := by decide +kernel
theorem dX11_image_4 : decode cX11_image 4 = .ok (.aload_n 0, 1) := by decide +kernel
theorem dX11_image_5 : decode cX11_image 5 = .ok (.getfield 23, 3) := by decide +kernel
theorem dX11_image_8 : decode cX11_image 8 = .ok (.invokevirtual 402, 3) := by decide +kernel
theorem dX11_image_11 : decode cX11_image 11 = .ok (.aload_n 0, 1) := by decide +kernel
theorem dX11_image_12 : decode cX11_image 12 = .ok (.iconst 1, 1) := by decide +kernel
theorem dX11_image_13 : decode cX11_image 13 = .ok (.putfield 30, 3) := by decide +kernel
theorem dX11_image_16 : decode cX11_image 16 = .ok (.return_, 1) := by decide +kernel
abbrev rmX11_image : Room := { frames := 3, cells := 0, slots := 0, locals := 102 }
noncomputable def fX11_image (σ : St) (x0 : Nat) : Option (St) :=
(gR σ x0 10 4).bind fun v1 =>
(gR σ x0 10 3).bind fun v5 =>
(isO σ v1 2).bind fun _ =>
(fX2_copyFrom σ v1 v5).bind fun w8 =>
(wrF w8 x0 10 5 (.int (1))).bind fun σ13 =>
some σ13
set_option maxHeartbeats 4000000 in
set_option maxRecDepth 100000 in
theorem cX11_imagec {l : Launch} {G : xG} {A : Nat → Prop} {σ : St} {x0 : Nat} {c : St} (hf : fX11_image σ x0 = some c) : Con l yX11_image (xws yX11_image cX11_image 1 none) rmX11_image [.ref (x0)] G A σ none c := by
  refine x_start rfl (Nat.le_of_ble_eq_true rfl) (fun X _ _ _ C hE0 => ?_)
  have hE : ∀ r, c = r → xE1 X none r := fun r e => e ▸ hE0
  show V X (0, 0) σ 0 [(0, .ref (x0))] []
  unfold fX11_image at hf
  refine x_aload_n C dX11_image_0 1 rfl 0 rfl rfl ?_
  obtain ⟨v1, hv1, hf⟩ := x_bind hf
  refine x_getR C dX11_image_1 4 rfl hv1 cl10 rfl w519 ?_
  refine x_aload_n C dX11_image_4 5 rfl 0 rfl rfl ?_
  obtain ⟨v5, hv5, hf⟩ := x_bind hf
  refine x_getR C dX11_image_5 8 rfl hv5 cl10 rfl w518 ?_
  obtain ⟨o8, ho8, hf⟩ := x_bind hf
  obtain ⟨w8, hw8, hf⟩ := x_bind hf
  refine x_callVv C dX11_image_8 11 rfl ho8 cl2.1 rfl (cX2_copyFromc hw8) kX2_copyFrom kvX2_copyFrom w746 ⟨rfl, rfl⟩ ⟨Nat.le_of_ble_eq_true rfl, Nat.le_of_ble_eq_true rfl⟩ ⟨Nat.zero_le _, Nat.zero_le _⟩ rfl rfl (Nat.le_of_ble_eq_true rfl) ?_
  refine x_aload_n C dX11_image_11 12 rfl 0 rfl rfl ?_
  refine x_iconst C dX11_image_12 13 rfl 1 (by decide) ?_
  obtain ⟨σ13, hσ13, hf⟩ := x_bind hf
  refine x_putX C dX11_image_13 16 rfl hσ13 cl10 rfl w520 rfl rfl rfl ?_
  exact x_vret C (hE _ (Option.some.inj hf).symm) dX11_image_16
theorem dX11_said_0 : decode cX11_said 0 = .ok (.iload_n 1, 1) := by decide +kernel
theorem dX11_said_1 : decode cX11_said 1 = .ok (.ifCond .lt 11, 3) := by decide +kernel
theorem dX11_said_4 : decode cX11_said 4 = .ok (.iload_n 1, 1) := by decide +kernel
theorem dX11_said_5 : decode cX11_said 5 = .ok (.aload_n 0, 1) := by decide +kernel
theorem dX11_said_6 : decode cX11_said 6 = .ok (.getfield 119, 3) := by decide +kernel
theorem dX11_said_9 : decode cX11_said 9 = .ok (.if_icmp .lt 7, 3) := by decide +kernel
theorem dX11_said_12 : decode cX11_said 12 = .ok (.iconst (-1), 1) := by decide +kernel
theorem dX11_said_13 : decode cX11_said 13 = .ok (.goto 9, 3) := by decide +kernel
theorem dX11_said_16 : decode cX11_said 16 = .ok (.aload_n 0, 1) := by decide +kernel
theorem dX11_said_17 : decode cX11_said 17 = .ok (.getfield 116, 3) := by decide +kernel
theorem dX11_said_20 : decode cX11_said 20 = .ok (.iload_n 1, 1) := by decide +kernel
theorem dX11_said_21 : decode cX11_said 21 = .ok (.iaload, 1) := by decide +kernel
theorem dX11_said_22 : decode cX11_said 22 = .ok (.ireturn, 1) := by decide +kernel
abbrev rmX11_said : Room := { frames := 0, cells := 0, slots := 0, locals := 0 }
noncomputable def fX11_said (σ : St) (x0 : Nat) (x1 : Int32) : Option (Int32) :=
if x1 < 0 then
(some (-1))
else
((gI σ x0 10 19).bind fun v6 =>
if x1 < v6 then
((gR σ x0 10 18).bind fun v17 =>
(aI σ v17 0 x1).bind fun v21 =>
some v21)
else
(some (-1)))
set_option maxHeartbeats 4000000 in
set_option maxRecDepth 100000 in
theorem cX11_saidc {l : Launch} {G : xG} {A : Nat → Prop} {σ : St} {x0 : Nat} {x1 : Int32} {c : Int32} (hf : fX11_said σ x0 x1 = some c) : Con l yX11_said (xws yX11_said cX11_said 2 (some .int)) rmX11_said [.ref (x0), .int (x1)] G A σ (some (.int c)) σ := by
  refine x_start rfl (Nat.le_of_ble_eq_true rfl) (fun X _ _ _ C hE0 => ?_)
  have hE : ∀ r, c = r → xE1 X (some (.int r)) σ := fun r e => e ▸ hE0
  show V X (0, 0) σ 0 [(0, .ref (x0)), (1, .int (x1))] []
  unfold fX11_said at hf
  refine x_iload_n C dX11_said_0 1 rfl 1 rfl rfl ?_
  refine x_if_lt C dX11_said_1 12 (by decide) 4 rfl (fun hc => ?_) (fun hc => ?_)
  · have hf := (if_pos hc).symm.trans hf
    refine x_iconst C dX11_said_12 13 rfl (-1) (by decide) ?_
    refine x_goto C dX11_said_13 22 (by decide) ?_
    exact x_iret C (hE _ (Option.some.inj hf).symm) dX11_said_22
  · have hf := (if_neg hc).symm.trans hf
    refine x_iload_n C dX11_said_4 5 rfl 1 rfl rfl ?_
    refine x_aload_n C dX11_said_5 6 rfl 0 rfl rfl ?_
    obtain ⟨v6, hv6, hf⟩ := x_bind hf
    refine x_getI C dX11_said_6 9 rfl hv6 cl10 rfl w534 ?_
    refine x_icmp_lt C dX11_said_9 16 (by decide) 12 rfl (fun hc => ?_) (fun hc => ?_)
    · have hf := (if_pos hc).symm.trans hf
      refine x_aload_n C dX11_said_16 17 rfl 0 rfl rfl ?_
      obtain ⟨v17, hv17, hf⟩ := x_bind hf
      refine x_getR C dX11_said_17 20 rfl hv17 cl10 rfl w533 ?_
      refine x_iload_n C dX11_said_20 21 rfl 1 rfl rfl ?_
      obtain ⟨v21, hv21, hf⟩ := x_bind hf
      refine x_iaload C dX11_said_21 22 rfl hv21 ?_
      exact x_iret C (hE _ (Option.some.inj hf).symm) dX11_said_22
    · have hf := (if_neg hc).symm.trans hf
      refine x_iconst C dX11_said_12 13 rfl (-1) (by decide) ?_
      refine x_goto C dX11_said_13 22 (by decide) ?_
      exact x_iret C (hE _ (Option.some.inj hf).symm) dX11_said_22
theorem dX11_saySign_0 : decode cX11_saySign 0 = .ok (.aload_n 0, 1) := by decide +kernel
theorem dX11_saySign_1 : decode cX11_saySign 1 = .ok (.getfield 119, 3) := by decide +kernel
theorem dX11_saySign_4 : decode cX11_saySign 4 = .ok (.sipush 430, 3) := by decide +kernel
theorem dX11_saySign_7 : decode cX11_saySign 7 = .ok (.if_icmp .ge 23, 3) := by decide +kernel
theorem dX11_saySign_10 : decode cX11_saySign 10 = .ok (.aload_n 0, 1) := by decide +kernel
theorem dX11_saySign_11 : decode cX11_saySign 11 = .ok (.getfield 116, 3) := by decide +kernel
theorem dX11_saySign_14 : decode cX11_saySign 14 = .ok (.aload_n 0, 1) := by decide +kernel
theorem dX11_saySign_15 : decode cX11_saySign 15 = .ok (.getfield 119, 3) := by decide +kernel
theorem dX11_saySign_18 : decode cX11_saySign 18 = .ok (.iload_n 1, 1) := by decide +kernel
theorem dX11_saySign_19 : decode cX11_saySign 19 = .ok (.iastore, 1) := by decide +kernel
theorem dX11_saySign_20 : decode cX11_saySign 20 = .ok (.aload_n 0, 1) := by decide +kernel
theorem dX11_saySign_21 : decode cX11_saySign 21 = .ok (.dup, 1) := by decide +kernel
theorem dX11_saySign_22 : decode cX11_saySign 22 = .ok (.getfield 119, 3) := by decide +kernel
theorem dX11_saySign_25 : decode cX11_saySign 25 = .ok (.iconst 1, 1) := by decide +kernel
theorem dX11_saySign_26 : decode cX11_saySign 26 = .ok (.iadd, 1) := by decide +kernel
theorem dX11_saySign_27 : decode cX11_saySign 27 = .ok (.putfield 119, 3) := by decide +kernel
theorem dX11_saySign_30 : decode cX11_saySign 30 = .ok (.return_, 1) := by decide +kernel
abbrev rmX11_saySign : Room := { frames := 0, cells := 0, slots := 0, locals := 0 }
noncomputable def fX11_saySign (σ : St) (x0 : Nat) (x1 : Int32) : Option (St) :=
(gI σ x0 10 19).bind fun v1 =>
if ((430 : Int32)) ≤ v1 then
(some σ)
else
((gR σ x0 10 18).bind fun v11 =>
(gI σ x0 10 19).bind fun v15 =>
(sI σ v11 v15 x1).bind fun σ19 =>
(gI σ19 x0 10 19).bind fun v22 =>
(wrF σ19 x0 10 19 (.int (v22 + 1))).bind fun σ27 =>
some σ27)
set_option maxHeartbeats 4000000 in
set_option maxRecDepth 100000 in
theorem cX11_saySignc {l : Launch} {G : xG} {A : Nat → Prop} {σ : St} {x0 : Nat} {x1 : Int32} {c : St} (hf : fX11_saySign σ x0 x1 = some c) : Con l yX11_saySign (xws yX11_saySign cX11_saySign 2 none) rmX11_saySign [.ref (x0), .int (x1)] G A σ none c := by
  refine x_start rfl (Nat.le_of_ble_eq_true rfl) (fun X _ _ _ C hE0 => ?_)
  have hE : ∀ r, c = r → xE1 X none r := fun r e => e ▸ hE0
  show V X (0, 0) σ 0 [(0, .ref (x0)), (1, .int (x1))] []
  unfold fX11_saySign at hf
  refine x_aload_n C dX11_saySign_0 1 rfl 0 rfl rfl ?_
  obtain ⟨v1, hv1, hf⟩ := x_bind hf
  refine x_getI C dX11_saySign_1 4 rfl hv1 cl10 rfl w534 ?_
  refine x_sipush C dX11_saySign_4 7 rfl 430 (by decide) ?_
  refine x_icmp_ge C dX11_saySign_7 30 (by decide) 10 rfl (fun hc => ?_) (fun hc => ?_)
  · have hf := (if_pos hc).symm.trans hf
    exact x_vret C (hE _ (Option.some.inj hf).symm) dX11_saySign_30
  · have hf := (if_neg hc).symm.trans hf
    refine x_aload_n C dX11_saySign_10 11 rfl 0 rfl rfl ?_
    obtain ⟨v11, hv11, hf⟩ := x_bind hf
    refine x_getR C dX11_saySign_11 14 rfl hv11 cl10 rfl w533 ?_
    refine x_aload_n C dX11_saySign_14 15 rfl 0 rfl rfl ?_
    obtain ⟨v15, hv15, hf⟩ := x_bind hf
    refine x_getI C dX11_saySign_15 18 rfl hv15 cl10 rfl w534 ?_
    refine x_iload_n C dX11_saySign_18 19 rfl 1 rfl rfl ?_
    obtain ⟨σ19, hσ19, hf⟩ := x_bind hf
    refine x_iastore C dX11_saySign_19 20 rfl hσ19 ?_
    refine x_aload_n C dX11_saySign_20 21 rfl 0 rfl rfl ?_
    refine x_dup C dX11_saySign_21 22 rfl rfl ?_
    obtain ⟨v22, hv22, hf⟩ := x_bind hf
    refine x_getI C dX11_saySign_22 25 rfl hv22 cl10 rfl w534 ?_
    refine x_iconst C dX11_saySign_25 26 rfl 1 (by decide) ?_
    refine x_iadd C dX11_saySign_26 27 rfl ?_
    obtain ⟨σ27, hσ27, hf⟩ := x_bind hf
    refine x_putX C dX11_saySign_27 30 rfl hσ27 cl10 rfl w534 rfl rfl rfl ?_
    exact x_vret C (hE _ (Option.some.inj hf).symm) dX11_saySign_30
theorem dX11_sayWord_0 : decode cX11_sayWord 0 = .ok (.iconst 0, 1) := by decide +kernel
theorem dX11_sayWord_1 : decode cX11_sayWord 1 = .ok (.istore_n 3, 1) := by decide +kernel
theorem dX11_sayWord_2 : decode cX11_sayWord 2 = .ok (.iload_n 3, 1) := by decide +kernel
theorem dX11_sayWord_3 : decode cX11_sayWord 3 = .ok (.lload_n 1, 1) := by decide +kernel
theorem dX11_sayWord_4 : decode cX11_sayWord 4 = .ok (.invokestatic 239, 3) := by decide +kernel
theorem dX11_sayWord_7 : decode cX11_sayWord 7 = .ok (.if_icmp .ge 21, 3) := by decide +kernel
theorem dX11_sayWord_10 : decode cX11_sayWord 10 = .ok (.aload_n 0, 1) := by decide +kernel
theorem dX11_sayWord_11 : decode cX11_sayWord 11 = .ok (.bipush 97, 2) := by decide +kernel
theorem dX11_sayWord_13 : decode cX11_sayWord 13 = .ok (.lload_n 1, 1) := by decide +kernel
theorem dX11_sayWord_14 : decode cX11_sayWord 14 = .ok (.iload_n 3, 1) := by decide +kernel
theorem dX11_sayWord_15 : decode cX11_sayWord 15 = .ok (.invokestatic 186, 3) := by decide +kernel
theorem dX11_sayWord_18 : decode cX11_sayWord 18 = .ok (.iadd, 1) := by decide +kernel
theorem dX11_sayWord_19 : decode cX11_sayWord 19 = .ok (.invokevirtual 350, 3) := by decide +kernel
theorem dX11_sayWord_22 : decode cX11_sayWord 22 = .ok (.iinc 3 1, 3) := by decide +kernel
theorem dX11_sayWord_25 : decode cX11_sayWord 25 = .ok (.goto (-23), 3) := by decide +kernel
theorem dX11_sayWord_28 : decode cX11_sayWord 28 = .ok (.return_, 1) := by decide +kernel
abbrev rmX11_sayWord : Room := { frames := 1, cells := 0, slots := 0, locals := 22 }
noncomputable def fLX11_sayWord_2 (x0 : Nat) (x1 : Int64) (a : Int32 × St) : Option ((Int32 × St) ⊕ (St)) :=
(fX10_length x1).bind fun w4 =>
if w4 ≤ a.1 then
(some (Sum.inr a.2))
else
((fX10_letterOf x1 a.1).bind fun w15 =>
(isO a.2 x0 10).bind fun _ =>
(fX11_saySign a.2 x0 (97 + w15)).bind fun w19 =>
xlet (a.1 + 1) fun v22 =>
some (Sum.inl (v22, w19)))
set_option maxHeartbeats 4000000 in
set_option maxRecDepth 100000 in
theorem lpX11_sayWord_2 {X : xX} {x0 : Nat} {x1 : Int64}  {a0 : Int32 × St} {b : St} (C : Ok X cX11_sayWord 4 RX11 rmX11_sayWord none) (hb : iterP (fLX11_sayWord_2 x0 x1) a0 = some b) (hy0 : ∀ s, b = s → V X (0, 0) s 28 [] []) : V X (0, 0) a0.2 2 [(0, .ref (x0)), (1, .long (x1)), (3, .int (a0.1))] [] := by
  obtain ⟨n, hn⟩ := iterP_some hb
  refine x_loop (P := fun a => V X (0, 0) a.2 2 [(0, .ref (x0)), (1, .long (x1)), (3, .int (a.1))] []) ?_ n a0 hn
  intro a c hf hK hxx
  have hx0 : ∀ s, c = Sum.inr s → V X (0, 0) s 28 [] [] := fun s e => hy0 s (hxx _ e).symm
  unfold fLX11_sayWord_2 at hf
  refine x_iload_n C dX11_sayWord_2 3 rfl 2 rfl rfl ?_
  refine x_lload_n C dX11_sayWord_3 4 rfl 1 rfl rfl ?_
  obtain ⟨w4, hw4, hf⟩ := x_bind hf
  refine x_callSi C dX11_sayWord_4 7 rfl (cX10_lengthc hw4) kX10_length ksX10_length w724 ⟨rfl, rfl⟩ ⟨Nat.le_of_ble_eq_true rfl, Nat.le_of_ble_eq_true rfl⟩ ⟨Nat.zero_le _, Nat.zero_le _⟩ rfl rfl (Nat.le_of_ble_eq_true rfl) ?_
  refine x_icmp_ge C dX11_sayWord_7 28 (by decide) 10 rfl (fun hc => ?_) (fun hc => ?_)
  · have hf := (if_pos hc).symm.trans hf
    refine x_lv [] (lv' := []) rfl ?_
    exact hx0 _ (Option.some.inj hf).symm
  · have hf := (if_neg hc).symm.trans hf
    refine x_aload_n C dX11_sayWord_10 11 rfl 0 rfl rfl ?_
    refine x_bipush C dX11_sayWord_11 13 rfl 97 (by decide) ?_
    refine x_lload_n C dX11_sayWord_13 14 rfl 1 rfl rfl ?_
    refine x_iload_n C dX11_sayWord_14 15 rfl 2 rfl rfl ?_
    obtain ⟨w15, hw15, hf⟩ := x_bind hf
    refine x_callSi C dX11_sayWord_15 18 rfl (cX10_letterOfc hw15) kX10_letterOf ksX10_letterOf w725 ⟨rfl, rfl⟩ ⟨Nat.le_of_ble_eq_true rfl, Nat.le_of_ble_eq_true rfl⟩ ⟨Nat.zero_le _, Nat.zero_le _⟩ rfl rfl (Nat.le_of_ble_eq_true rfl) ?_
    refine x_iadd C dX11_sayWord_18 19 rfl ?_
    obtain ⟨o19, ho19, hf⟩ := x_bind hf
    obtain ⟨w19, hw19, hf⟩ := x_bind hf
    refine x_callVv C dX11_sayWord_19 22 rfl ho19 cl10.1 rfl (cX11_saySignc hw19) kX11_saySign kvX11_saySign w716 ⟨rfl, rfl⟩ ⟨Nat.le_of_ble_eq_true rfl, Nat.le_of_ble_eq_true rfl⟩ ⟨Nat.zero_le _, Nat.zero_le _⟩ rfl rfl (Nat.le_of_ble_eq_true rfl) ?_
    obtain ⟨v22, ev22, hf⟩ := xlet_some hf
    refine x_iinc C dX11_sayWord_22 25 rfl 2 rfl v22 ev22 rfl [(3, .int (v22)), (0, .ref (x0)), (1, .long (x1))] rfl ?_
    refine x_goto C dX11_sayWord_25 2 (by decide) ?_
    refine x_lv [1, 2, 0] (lv' := [(0, .ref (x0)), (1, .long (x1)), (3, .int (v22))]) rfl ?_
    exact hK _ (Option.some.inj hf).symm
noncomputable def fX11_sayWord (σ : St) (x0 : Nat) (x1 : Int64) : Option (St) :=
(iterP (fLX11_sayWord_2 x0 x1) (0, σ)).bind fun b2 =>
some b2
set_option maxHeartbeats 4000000 in
set_option maxRecDepth 100000 in
theorem cX11_sayWordc {l : Launch} {G : xG} {A : Nat → Prop} {σ : St} {x0 : Nat} {x1 : Int64} {c : St} (hf : fX11_sayWord σ x0 x1 = some c) : Con l yX11_sayWord (xws yX11_sayWord cX11_sayWord 4 none) rmX11_sayWord [.ref (x0), .long (x1)] G A σ none c := by
  refine x_start rfl (Nat.le_of_ble_eq_true rfl) (fun X _ _ _ C hE0 => ?_)
  have hE : ∀ r, c = r → xE1 X none r := fun r e => e ▸ hE0
  show V X (0, 0) σ 0 [(0, .ref (x0)), (1, .long (x1))] []
  unfold fX11_sayWord at hf
  refine x_iconst C dX11_sayWord_0 1 rfl 0 (by decide) ?_
  refine x_istore_n C dX11_sayWord_1 2 rfl rfl rfl [(3, .int (0)), (0, .ref (x0)), (1, .long (x1))] rfl ?_
  obtain ⟨b2, hb2, hf⟩ := x_bind hf
  refine x_lv [1, 2, 0] (lv' := [(0, .ref (x0)), (1, .long (x1)), (3, .int (0))]) rfl ?_
  refine lpX11_sayWord_2 C hb2 (fun s2 e2 => ?_)
  subst e2
  exact x_vret C (hE _ (Option.some.inj hf).symm) dX11_sayWord_28
theorem dX8_letterAtRank_0 : decode cX8_letterAtRank 0 = .ok (.iconst 0, 1) := by decide +kernel
theorem dX8_letterAtRank_1 : decode cX8_letterAtRank 1 = .ok (.istore_n 2, 1) := by decide +kernel
theorem dX8_letterAtRank_2 : decode cX8_letterAtRank 2 = .ok (.iload_n 2, 1) := by decide +kernel
theorem dX8_letterAtRank_3 : decode cX8_letterAtRank 3 = .ok (.aload_n 0, 1) := by decide +kernel
theorem dX8_letterAtRank_4 : decode cX8_letterAtRank 4 = .ok (.getfield 9, 3) := by decide +kernel
theorem dX8_letterAtRank_7 : decode cX8_letterAtRank 7 = .ok (.if_icmp .ge 21, 3) := by decide +kernel
theorem dX8_letterAtRank_10 : decode cX8_letterAtRank 10 = .ok (.aload_n 0, 1) := by decide +kernel
theorem dX8_letterAtRank_11 : decode cX8_letterAtRank 11 = .ok (.getfield 29, 3) := by decide +kernel
theorem dX8_letterAtRank_14 : decode cX8_letterAtRank 14 = .ok (.iload_n 2, 1) := by decide +kernel
theorem dX8_letterAtRank_15 : decode cX8_letterAtRank 15 = .ok (.iaload, 1) := by decide +kernel
theorem dX8_letterAtRank_16 : decode cX8_letterAtRank 16 = .ok (.iload_n 1, 1) := by decide +kernel
theorem dX8_letterAtRank_17 : decode cX8_letterAtRank 17 = .ok (.if_icmp .ne 5, 3) := by decide +kernel
theorem dX8_letterAtRank_20 : decode cX8_letterAtRank 20 = .ok (.iload_n 2, 1) := by decide +kernel
theorem dX8_letterAtRank_21 : decode cX8_letterAtRank 21 = .ok (.ireturn, 1) := by decide +kernel
theorem dX8_letterAtRank_22 : decode cX8_letterAtRank 22 = .ok (.iinc 2 1, 3) := by decide +kernel
theorem dX8_letterAtRank_25 : decode cX8_letterAtRank 25 = .ok (.goto (-23), 3) := by decide +kernel
theorem dX8_letterAtRank_28 : decode cX8_letterAtRank 28 = .ok (.iconst 0, 1) := by decide +kernel
theorem dX8_letterAtRank_29 : decode cX8_letterAtRank 29 = .ok (.ireturn, 1) := by decide +kernel
abbrev rmX8_letterAtRank : Room := { frames := 0, cells := 0, slots := 0, locals := 0 }
noncomputable def fLX8_letterAtRank_2 (σ : St) (x0 : Nat) (x1 : Int32) (a : Int32) : Option ((Int32) ⊕ ((Int32) ⊕ (Unit))) :=
(gI σ x0 8 0).bind fun v4 =>
if v4 ≤ a then
(some (Sum.inr (Sum.inr ())))
else
((gR σ x0 8 5).bind fun v11 =>
(aI σ v11 0 a).bind fun v15 =>
if v15 = x1 then
(some (Sum.inr (Sum.inl a)))
else
(xlet (a + 1) fun v22 =>
some (Sum.inl v22)))
set_option maxHeartbeats 4000000 in
set_option maxRecDepth 100000 in
theorem lpX8_letterAtRank_2 {X : xX} {σ : St} {x0 : Nat} {x1 : Int32}  {a0 : Int32} {b : (Int32) ⊕ (Unit)} (C : Ok X cX8_letterAtRank 3 RX8 rmX8_letterAtRank (some .int)) (hb : iterP (fLX8_letterAtRank_2 σ x0 x1) a0 = some b) (hy0 : ∀ s, b = (Sum.inl s) → V X (0, 0) σ 20 [(2, .int (s))] []) (hy1 : ∀ s, b = (Sum.inr s) → V X (0, 0) σ 28 [] []) : V X (0, 0) σ 2 [(0, .ref (x0)), (1, .int (x1)), (2, .int (a0))] [] := by
  obtain ⟨n, hn⟩ := iterP_some hb
  refine x_loop (P := fun a => V X (0, 0) σ 2 [(0, .ref (x0)), (1, .int (x1)), (2, .int (a))] []) ?_ n a0 hn
  intro a c hf hK hxx
  have hx0 : ∀ s, c = Sum.inr (Sum.inl s) → V X (0, 0) σ 20 [(2, .int (s))] [] := fun s e => hy0 s (hxx _ e).symm
  have hx1 : ∀ s, c = Sum.inr (Sum.inr s) → V X (0, 0) σ 28 [] [] := fun s e => hy1 s (hxx _ e).symm
  unfold fLX8_letterAtRank_2 at hf
  refine x_iload_n C dX8_letterAtRank_2 3 rfl 2 rfl rfl ?_
  refine x_aload_n C dX8_letterAtRank_3 4 rfl 0 rfl rfl ?_
  obtain ⟨v4, hv4, hf⟩ := x_bind hf
  refine x_getI C dX8_letterAtRank_4 7 rfl hv4 cl8 rfl w178 ?_
  refine x_icmp_ge C dX8_letterAtRank_7 28 (by decide) 10 rfl (fun hc => ?_) (fun hc => ?_)
  · have hf := (if_pos hc).symm.trans hf
    refine x_lv [] (lv' := []) rfl ?_
    exact hx1 _ (Option.some.inj hf).symm
  · have hf := (if_neg hc).symm.trans hf
    refine x_aload_n C dX8_letterAtRank_10 11 rfl 0 rfl rfl ?_
    obtain ⟨v11, hv11, hf⟩ := x_bind hf
    refine x_getR C dX8_letterAtRank_11 14 rfl hv11 cl8 rfl w205 ?_
    refine x_iload_n C dX8_letterAtRank_14 15 rfl 2 rfl rfl ?_
    obtain ⟨v15, hv15, hf⟩ := x_bind hf
    refine x_iaload C dX8_letterAtRank_15 16 rfl hv15 ?_
    refine x_iload_n C dX8_letterAtRank_16 17 rfl 1 rfl rfl ?_
    refine x_icmp_ne C dX8_letterAtRank_17 22 (by decide) 20 rfl (fun hc => ?_) (fun hc => ?_)
    · have hf := (if_neg hc).symm.trans hf
      obtain ⟨v22, ev22, hf⟩ := xlet_some hf
      refine x_iinc C dX8_letterAtRank_22 25 rfl 2 rfl v22 ev22 rfl [(2, .int (v22)), (0, .ref (x0)), (1, .int (x1))] rfl ?_
      refine x_goto C dX8_letterAtRank_25 2 (by decide) ?_
      refine x_lv [1, 2, 0] (lv' := [(0, .ref (x0)), (1, .int (x1)), (2, .int (v22))]) rfl ?_
      exact hK _ (Option.some.inj hf).symm
    · have hf := (if_pos hc).symm.trans hf
      refine x_lv [2] (lv' := [(2, .int (a))]) rfl ?_
      exact hx0 _ (Option.some.inj hf).symm
noncomputable def fX8_letterAtRank (σ : St) (x0 : Nat) (x1 : Int32) : Option (Int32) :=
(iterP (fLX8_letterAtRank_2 σ x0 x1) 0).bind fun b2 =>
(match b2 with
| .inl s2 =>
some s2
| .inr s2 =>
some 0)
set_option maxHeartbeats 4000000 in
set_option maxRecDepth 100000 in
theorem cX8_letterAtRankc {l : Launch} {G : xG} {A : Nat → Prop} {σ : St} {x0 : Nat} {x1 : Int32} {c : Int32} (hf : fX8_letterAtRank σ x0 x1 = some c) : Con l yX8_letterAtRank (xws yX8_letterAtRank cX8_letterAtRank 3 (some .int)) rmX8_letterAtRank [.ref (x0), .int (x1)] G A σ (some (.int c)) σ := by
  refine x_start rfl (Nat.le_of_ble_eq_true rfl) (fun X _ _ _ C hE0 => ?_)
  have hE : ∀ r, c = r → xE1 X (some (.int r)) σ := fun r e => e ▸ hE0
  show V X (0, 0) σ 0 [(0, .ref (x0)), (1, .int (x1))] []
  unfold fX8_letterAtRank at hf
  refine x_iconst C dX8_letterAtRank_0 1 rfl 0 (by decide) ?_
  refine x_istore_n C dX8_letterAtRank_1 2 rfl rfl rfl [(2, .int (0)), (0, .ref (x0)), (1, .int (x1))] rfl ?_
  obtain ⟨b2, hb2, hf⟩ := x_bind hf
  refine x_lv [1, 2, 0] (lv' := [(0, .ref (x0)), (1, .int (x1)), (2, .int (0))]) rfl ?_
  refine lpX8_letterAtRank_2 C hb2 (fun s2 e2 => ?_) (fun s2 e2 => ?_)
  · subst e2
    try dsimp only at hf
    refine x_iload_n C dX8_letterAtRank_20 21 rfl 0 rfl rfl ?_
    exact x_iret C (hE _ (Option.some.inj hf).symm) dX8_letterAtRank_21
  · subst e2
    try dsimp only at hf
    refine x_iconst C dX8_letterAtRank_28 29 rfl 0 (by decide) ?_
    exact x_iret C (hE _ (Option.some.inj hf).symm) dX8_letterAtRank_29
theorem dX11_say_0 : decode cX11_say 0 = .ok (.aload_n 0, 1) := by decide +kernel
theorem dX11_say_1 : decode cX11_say 1 = .ok (.getfield 23, 3) := by decide +kernel
theorem dX11_say_4 : decode cX11_say 4 = .ok (.getfield 52, 3) := by decide +kernel
theorem dX11_say_7 : decode cX11_say 7 = .ok (.astore_n 1, 1) := by decide +kernel
theorem dX11_say_8 : decode cX11_say 8 = .ok (.aload_n 0, 1) := by decide +kernel
theorem dX11_say_9 : decode cX11_say 9 = .ok (.iconst 0, 1) := by decide +kernel
theorem dX11_say_10 : decode cX11_say 10 = .ok (.putfield 119, 3) := by decide +kernel
theorem dX11_say_13 : decode cX11_say 13 = .ok (.iconst 0, 1) := by decide +kernel
theorem dX11_say_14 : decode cX11_say 14 = .ok (.istore_n 2, 1) := by decide +kernel
theorem dX11_say_15 : decode cX11_say 15 = .ok (.iload_n 2, 1) := by decide +kernel
theorem dX11_say_16 : decode cX11_say 16 = .ok (.aload_n 1, 1) := by decide +kernel
theorem dX11_say_17 : decode cX11_say 17 = .ok (.getfield 148, 3) := by decide +kernel
theorem dX11_say_20 : decode cX11_say 20 = .ok (.if_icmp .ge 45, 3) := by decide +kernel
theorem dX11_say_23 : decode cX11_say 23 = .ok (.iload_n 2, 1) := by decide +kernel
theorem dX11_say_24 : decode cX11_say 24 = .ok (.ifCond .le 9, 3) := by decide +kernel
theorem dX11_say_27 : decode cX11_say 27 = .ok (.aload_n 0, 1) := by decide +kernel
theorem dX11_say_28 : decode cX11_say 28 = .ok (.bipush 44, 2) := by decide +kernel
theorem dX11_say_30 : decode cX11_say 30 = .ok (.invokevirtual 350, 3) := by decide +kernel
theorem dX11_say_33 : decode cX11_say 33 = .ok (.aload_n 0, 1) := by decide +kernel
theorem dX11_say_34 : decode cX11_say 34 = .ok (.aload_n 1, 1) := by decide +kernel
theorem dX11_say_35 : decode cX11_say 35 = .ok (.getfield 183, 3) := by decide +kernel
theorem dX11_say_38 : decode cX11_say 38 = .ok (.iload_n 2, 1) := by decide +kernel
theorem dX11_say_39 : decode cX11_say 39 = .ok (.laload, 1) := by decide +kernel
theorem dX11_say_40 : decode cX11_say 40 = .ok (.invokevirtual 353, 3) := by decide +kernel
theorem dX11_say_43 : decode cX11_say 43 = .ok (.aload_n 0, 1) := by decide +kernel
theorem dX11_say_44 : decode cX11_say 44 = .ok (.bipush 62, 2) := by decide +kernel
theorem dX11_say_46 : decode cX11_say 46 = .ok (.invokevirtual 350, 3) := by decide +kernel
theorem dX11_say_49 : decode cX11_say 49 = .ok (.aload_n 0, 1) := by decide +kernel
theorem dX11_say_50 : decode cX11_say 50 = .ok (.aload_n 1, 1) := by decide +kernel
theorem dX11_say_51 : decode cX11_say 51 = .ok (.getfield 179, 3) := by decide +kernel
theorem dX11_say_54 : decode cX11_say 54 = .ok (.iload_n 2, 1) := by decide +kernel
theorem dX11_say_55 : decode cX11_say 55 = .ok (.laload, 1) := by decide +kernel
theorem dX11_say_56 : decode cX11_say 56 = .ok (.invokevirtual 353, 3) := by decide +kernel
theorem dX11_say_59 : decode cX11_say 59 = .ok (.iinc 2 1, 3) := by decide +kernel
theorem dX11_say_62 : decode cX11_say 62 = .ok (.goto (-47), 3) := by decide +kernel
theorem dX11_say_65 : decode cX11_say 65 = .ok (.aload_n 0, 1) := by decide +kernel
theorem dX11_say_66 : decode cX11_say 66 = .ok (.bipush 47, 2) := by decide +kernel
theorem dX11_say_68 : decode cX11_say 68 = .ok (.invokevirtual 350, 3) := by decide +kernel
theorem dX11_say_71 : decode cX11_say 71 = .ok (.iconst 0, 1) := by decide +kernel
theorem dX11_say_72 : decode cX11_say 72 = .ok (.istore_n 2, 1) := by decide +kernel
theorem dX11_say_73 : decode cX11_say 73 = .ok (.iload_n 2, 1) := by decide +kernel
theorem dX11_say_74 : decode cX11_say 74 = .ok (.aload_n 1, 1) := by decide +kernel
theorem dX11_say_75 : decode cX11_say 75 = .ok (.getfield 151, 3) := by decide +kernel
theorem dX11_say_78 : decode cX11_say 78 = .ok (.if_icmp .ge 36, 3) := by decide +kernel
theorem dX11_say_81 : decode cX11_say 81 = .ok (.aload_n 1, 1) := by decide +kernel
theorem dX11_say_82 : decode cX11_say 82 = .ok (.iload_n 2, 1) := by decide +kernel
theorem dX11_say_83 : decode cX11_say 83 = .ok (.invokevirtual 356, 3) := by decide +kernel
theorem dX11_say_86 : decode cX11_say 86 = .ok (.istore_n 3, 1) := by decide +kernel
theorem dX11_say_87 : decode cX11_say 87 = .ok (.aload_n 0, 1) := by decide +kernel
theorem dX11_say_88 : decode cX11_say 88 = .ok (.bipush 97, 2) := by decide +kernel
theorem dX11_say_90 : decode cX11_say 90 = .ok (.iload_n 3, 1) := by decide +kernel
theorem dX11_say_91 : decode cX11_say 91 = .ok (.iadd, 1) := by decide +kernel
theorem dX11_say_92 : decode cX11_say 92 = .ok (.invokevirtual 350, 3) := by decide +kernel
theorem dX11_say_95 : decode cX11_say 95 = .ok (.aload_n 0, 1) := by decide +kernel
theorem dX11_say_96 : decode cX11_say 96 = .ok (.bipush 48, 2) := by decide +kernel
theorem dX11_say_98 : decode cX11_say 98 = .ok (.aload_n 1, 1) := by decide +kernel
theorem dX11_say_99 : decode cX11_say 99 = .ok (.getfield 198, 3) := by decide +kernel
theorem dX11_say_102 : decode cX11_say 102 = .ok (.iload_n 3, 1) := by decide +kernel
theorem dX11_say_103 : decode cX11_say 103 = .ok (.iaload, 1) := by decide +kernel
theorem dX11_say_104 : decode cX11_say 104 = .ok (.iadd, 1) := by decide +kernel
theorem dX11_say_105 : decode cX11_say 105 = .ok (.invokevirtual 350, 3) := by decide +kernel
theorem dX11_say_108 : decode cX11_say 108 = .ok (.iinc 2 1, 3) := by decide +kernel
theorem dX11_say_111 : decode cX11_say 111 = .ok (.goto (-38), 3) := by decide +kernel
theorem dX11_say_114 : decode cX11_say 114 = .ok (.aload_n 0, 1) := by decide +kernel
theorem dX11_say_115 : decode cX11_say 115 = .ok (.getfield 119, 3) := by decide +kernel
theorem dX11_say_118 : decode cX11_say 118 = .ok (.ireturn, 1) := by decide +kernel
abbrev rmX11_say : Room := { frames := 2, cells := 0, slots := 0, locals := 45 }
noncomputable def fJX11_say_15_33 (σ : St) (x0 : Nat) (x1 : Nat) (x2 : Int32)  : Option ((Int32 × St) ⊕ (St)) :=
(gR σ x1 8 2).bind fun v35 =>
(aL σ v35 x2).bind fun v39 =>
(isO σ x0 10).bind fun _ =>
(fX11_sayWord σ x0 v39).bind fun w40 =>
(isO w40 x0 10).bind fun _ =>
(fX11_saySign w40 x0 62).bind fun w46 =>
(gR w46 x1 8 3).bind fun v51 =>
(aL w46 v51 x2).bind fun v55 =>
(isO w46 x0 10).bind fun _ =>
(fX11_sayWord w46 x0 v55).bind fun w56 =>
xlet (x2 + 1) fun v59 =>
some (Sum.inl (v59, w56))
set_option maxHeartbeats 4000000 in
set_option maxRecDepth 100000 in
theorem jnX11_say_15_33 {X : xX} {σ : St} {x0 : Nat} {x1 : Nat} {x2 : Int32}   {c : (Int32 × St) ⊕ (St)} (C : Ok X cX11_say 4 RX11 rmX11_say (some .int)) (hf : fJX11_say_15_33 σ x0 x1 x2  = some c) (hK : ∀ a', c = Sum.inl a' → V X (0, 0) a'.2 15 [(0, .ref (x0)), (1, .ref (x1)), (2, .int (a'.1))] []) (hx0 : ∀ s, c = Sum.inr s → V X (0, 0) s 65 [(0, .ref (x0)), (1, .ref (x1))] []) : V X (0, 0) σ 33 [(0, .ref (x0)), (1, .ref (x1)), (2, .int (x2))] [] := by
  unfold fJX11_say_15_33 at hf
  refine x_aload_n C dX11_say_33 34 rfl 0 rfl rfl ?_
  refine x_aload_n C dX11_say_34 35 rfl 1 rfl rfl ?_
  obtain ⟨v35, hv35, hf⟩ := x_bind hf
  refine x_getR C dX11_say_35 38 rfl hv35 cl8 rfl w195 ?_
  refine x_iload_n C dX11_say_38 39 rfl 2 rfl rfl ?_
  obtain ⟨v39, hv39, hf⟩ := x_bind hf
  refine x_laload C dX11_say_39 40 rfl hv39 ?_
  obtain ⟨o40, ho40, hf⟩ := x_bind hf
  obtain ⟨w40, hw40, hf⟩ := x_bind hf
  refine x_callVv C dX11_say_40 43 rfl ho40 cl10.1 rfl (cX11_sayWordc hw40) kX11_sayWord kvX11_sayWord w720 ⟨rfl, rfl⟩ ⟨Nat.le_of_ble_eq_true rfl, Nat.le_of_ble_eq_true rfl⟩ ⟨Nat.zero_le _, Nat.zero_le _⟩ rfl rfl (Nat.le_of_ble_eq_true rfl) ?_
  refine x_aload_n C dX11_say_43 44 rfl 0 rfl rfl ?_
  refine x_bipush C dX11_say_44 46 rfl 62 (by decide) ?_
  obtain ⟨o46, ho46, hf⟩ := x_bind hf
  obtain ⟨w46, hw46, hf⟩ := x_bind hf
  refine x_callVv C dX11_say_46 49 rfl ho46 cl10.1 rfl (cX11_saySignc hw46) kX11_saySign kvX11_saySign w716 ⟨rfl, rfl⟩ ⟨Nat.le_of_ble_eq_true rfl, Nat.le_of_ble_eq_true rfl⟩ ⟨Nat.zero_le _, Nat.zero_le _⟩ rfl rfl (Nat.le_of_ble_eq_true rfl) ?_
  refine x_aload_n C dX11_say_49 50 rfl 0 rfl rfl ?_
  refine x_aload_n C dX11_say_50 51 rfl 1 rfl rfl ?_
  obtain ⟨v51, hv51, hf⟩ := x_bind hf
  refine x_getR C dX11_say_51 54 rfl hv51 cl8 rfl w201 ?_
  refine x_iload_n C dX11_say_54 55 rfl 2 rfl rfl ?_
  obtain ⟨v55, hv55, hf⟩ := x_bind hf
  refine x_laload C dX11_say_55 56 rfl hv55 ?_
  obtain ⟨o56, ho56, hf⟩ := x_bind hf
  obtain ⟨w56, hw56, hf⟩ := x_bind hf
  refine x_callVv C dX11_say_56 59 rfl ho56 cl10.1 rfl (cX11_sayWordc hw56) kX11_sayWord kvX11_sayWord w720 ⟨rfl, rfl⟩ ⟨Nat.le_of_ble_eq_true rfl, Nat.le_of_ble_eq_true rfl⟩ ⟨Nat.zero_le _, Nat.zero_le _⟩ rfl rfl (Nat.le_of_ble_eq_true rfl) ?_
  obtain ⟨v59, ev59, hf⟩ := xlet_some hf
  refine x_iinc C dX11_say_59 62 rfl 2 rfl v59 ev59 rfl [(2, .int (v59)), (0, .ref (x0)), (1, .ref (x1))] rfl ?_
  refine x_goto C dX11_say_62 15 (by decide) ?_
  refine x_lv [1, 2, 0] (lv' := [(0, .ref (x0)), (1, .ref (x1)), (2, .int (v59))]) rfl ?_
  exact hK _ (Option.some.inj hf).symm
noncomputable def fLX11_say_15 (x0 : Nat) (x1 : Nat) (a : Int32 × St) : Option ((Int32 × St) ⊕ (St)) :=
(gI a.2 x1 8 1).bind fun v17 =>
if v17 ≤ a.1 then
(some (Sum.inr a.2))
else
(if a.1 ≤ 0 then
(fJX11_say_15_33 a.2 x0 x1 a.1)
else
((isO a.2 x0 10).bind fun _ =>
(fX11_saySign a.2 x0 44).bind fun w30 =>
fJX11_say_15_33 w30 x0 x1 a.1))
set_option maxHeartbeats 4000000 in
set_option maxRecDepth 100000 in
theorem lpX11_say_15 {X : xX} {x0 : Nat} {x1 : Nat}  {a0 : Int32 × St} {b : St} (C : Ok X cX11_say 4 RX11 rmX11_say (some .int)) (hb : iterP (fLX11_say_15 x0 x1) a0 = some b) (hy0 : ∀ s, b = s → V X (0, 0) s 65 [(0, .ref (x0)), (1, .ref (x1))] []) : V X (0, 0) a0.2 15 [(0, .ref (x0)), (1, .ref (x1)), (2, .int (a0.1))] [] := by
  obtain ⟨n, hn⟩ := iterP_some hb
  refine x_loop (P := fun a => V X (0, 0) a.2 15 [(0, .ref (x0)), (1, .ref (x1)), (2, .int (a.1))] []) ?_ n a0 hn
  intro a c hf hK hxx
  have hx0 : ∀ s, c = Sum.inr s → V X (0, 0) s 65 [(0, .ref (x0)), (1, .ref (x1))] [] := fun s e => hy0 s (hxx _ e).symm
  unfold fLX11_say_15 at hf
  refine x_iload_n C dX11_say_15 16 rfl 2 rfl rfl ?_
  refine x_aload_n C dX11_say_16 17 rfl 1 rfl rfl ?_
  obtain ⟨v17, hv17, hf⟩ := x_bind hf
  refine x_getI C dX11_say_17 20 rfl hv17 cl8 rfl w187 ?_
  refine x_icmp_ge C dX11_say_20 65 (by decide) 23 rfl (fun hc => ?_) (fun hc => ?_)
  · have hf := (if_pos hc).symm.trans hf
    refine x_lv [0, 1] (lv' := [(0, .ref (x0)), (1, .ref (x1))]) rfl ?_
    exact hx0 _ (Option.some.inj hf).symm
  · have hf := (if_neg hc).symm.trans hf
    refine x_iload_n C dX11_say_23 24 rfl 2 rfl rfl ?_
    refine x_if_le C dX11_say_24 33 (by decide) 27 rfl (fun hc => ?_) (fun hc => ?_)
    · have hf := (if_pos hc).symm.trans hf
      exact jnX11_say_15_33 C hf hK hx0
    · have hf := (if_neg hc).symm.trans hf
      refine x_aload_n C dX11_say_27 28 rfl 0 rfl rfl ?_
      refine x_bipush C dX11_say_28 30 rfl 44 (by decide) ?_
      obtain ⟨o30, ho30, hf⟩ := x_bind hf
      obtain ⟨w30, hw30, hf⟩ := x_bind hf
      refine x_callVv C dX11_say_30 33 rfl ho30 cl10.1 rfl (cX11_saySignc hw30) kX11_saySign kvX11_saySign w716 ⟨rfl, rfl⟩ ⟨Nat.le_of_ble_eq_true rfl, Nat.le_of_ble_eq_true rfl⟩ ⟨Nat.zero_le _, Nat.zero_le _⟩ rfl rfl (Nat.le_of_ble_eq_true rfl) ?_
      exact jnX11_say_15_33 C hf hK hx0
noncomputable def fLX11_say_73 (x0 : Nat) (x1 : Nat) (a : Int32 × St) : Option ((Int32 × St) ⊕ (St)) :=
(gI a.2 x1 8 0).bind fun v75 =>
if v75 ≤ a.1 then
(some (Sum.inr a.2))
else
((isO a.2 x1 8).bind fun _ =>
(fX8_letterAtRank a.2 x1 a.1).bind fun w83 =>
(isO a.2 x0 10).bind fun _ =>
(fX11_saySign a.2 x0 (97 + w83)).bind fun w92 =>
(gR w92 x1 8 4).bind fun v99 =>
(aI w92 v99 0 w83).bind fun v103 =>
(isO w92 x0 10).bind fun _ =>
(fX11_saySign w92 x0 (48 + v103)).bind fun w105 =>
xlet (a.1 + 1) fun v108 =>
some (Sum.inl (v108, w105)))
set_option maxHeartbeats 4000000 in
set_option maxRecDepth 100000 in
theorem lpX11_say_73 {X : xX} {x0 : Nat} {x1 : Nat}  {a0 : Int32 × St} {b : St} (C : Ok X cX11_say 4 RX11 rmX11_say (some .int)) (hb : iterP (fLX11_say_73 x0 x1) a0 = some b) (hy0 : ∀ s, b = s → V X (0, 0) s 114 [(0, .ref (x0))] []) : V X (0, 0) a0.2 73 [(0, .ref (x0)), (1, .ref (x1)), (2, .int (a0.1))] [] := by
  obtain ⟨n, hn⟩ := iterP_some hb
  refine x_loop (P := fun a => V X (0, 0) a.2 73 [(0, .ref (x0)), (1, .ref (x1)), (2, .int (a.1))] []) ?_ n a0 hn
  intro a c hf hK hxx
  have hx0 : ∀ s, c = Sum.inr s → V X (0, 0) s 114 [(0, .ref (x0))] [] := fun s e => hy0 s (hxx _ e).symm
  unfold fLX11_say_73 at hf
  refine x_iload_n C dX11_say_73 74 rfl 2 rfl rfl ?_
  refine x_aload_n C dX11_say_74 75 rfl 1 rfl rfl ?_
  obtain ⟨v75, hv75, hf⟩ := x_bind hf
  refine x_getI C dX11_say_75 78 rfl hv75 cl8 rfl w180 ?_
  refine x_icmp_ge C dX11_say_78 114 (by decide) 81 rfl (fun hc => ?_) (fun hc => ?_)
  · have hf := (if_pos hc).symm.trans hf
    refine x_lv [0] (lv' := [(0, .ref (x0))]) rfl ?_
    exact hx0 _ (Option.some.inj hf).symm
  · have hf := (if_neg hc).symm.trans hf
    refine x_aload_n C dX11_say_81 82 rfl 1 rfl rfl ?_
    refine x_iload_n C dX11_say_82 83 rfl 2 rfl rfl ?_
    obtain ⟨o83, ho83, hf⟩ := x_bind hf
    obtain ⟨w83, hw83, hf⟩ := x_bind hf
    refine x_callVi C dX11_say_83 86 rfl ho83 cl8.1 rfl (cX8_letterAtRankc hw83) kX8_letterAtRank kvX8_letterAtRank w726 ⟨rfl, rfl⟩ ⟨Nat.le_of_ble_eq_true rfl, Nat.le_of_ble_eq_true rfl⟩ ⟨Nat.zero_le _, Nat.zero_le _⟩ rfl rfl (Nat.le_of_ble_eq_true rfl) ?_
    refine x_istore_n C dX11_say_86 87 rfl rfl rfl [(3, .int (w83)), (0, .ref (x0)), (1, .ref (x1)), (2, .int (a.1))] rfl ?_
    refine x_aload_n C dX11_say_87 88 rfl 1 rfl rfl ?_
    refine x_bipush C dX11_say_88 90 rfl 97 (by decide) ?_
    refine x_iload_n C dX11_say_90 91 rfl 0 rfl rfl ?_
    refine x_iadd C dX11_say_91 92 rfl ?_
    obtain ⟨o92, ho92, hf⟩ := x_bind hf
    obtain ⟨w92, hw92, hf⟩ := x_bind hf
    refine x_callVv C dX11_say_92 95 rfl ho92 cl10.1 rfl (cX11_saySignc hw92) kX11_saySign kvX11_saySign w716 ⟨rfl, rfl⟩ ⟨Nat.le_of_ble_eq_true rfl, Nat.le_of_ble_eq_true rfl⟩ ⟨Nat.zero_le _, Nat.zero_le _⟩ rfl rfl (Nat.le_of_ble_eq_true rfl) ?_
    refine x_aload_n C dX11_say_95 96 rfl 1 rfl rfl ?_
    refine x_bipush C dX11_say_96 98 rfl 48 (by decide) ?_
    refine x_aload_n C dX11_say_98 99 rfl 2 rfl rfl ?_
    obtain ⟨v99, hv99, hf⟩ := x_bind hf
    refine x_getR C dX11_say_99 102 rfl hv99 cl8 rfl w204 ?_
    refine x_iload_n C dX11_say_102 103 rfl 0 rfl rfl ?_
    obtain ⟨v103, hv103, hf⟩ := x_bind hf
    refine x_iaload C dX11_say_103 104 rfl hv103 ?_
    refine x_iadd C dX11_say_104 105 rfl ?_
    obtain ⟨o105, ho105, hf⟩ := x_bind hf
    obtain ⟨w105, hw105, hf⟩ := x_bind hf
    refine x_callVv C dX11_say_105 108 rfl ho105 cl10.1 rfl (cX11_saySignc hw105) kX11_saySign kvX11_saySign w716 ⟨rfl, rfl⟩ ⟨Nat.le_of_ble_eq_true rfl, Nat.le_of_ble_eq_true rfl⟩ ⟨Nat.zero_le _, Nat.zero_le _⟩ rfl rfl (Nat.le_of_ble_eq_true rfl) ?_
    obtain ⟨v108, ev108, hf⟩ := xlet_some hf
    refine x_iinc C dX11_say_108 111 rfl 3 rfl v108 ev108 rfl [(2, .int (v108)), (3, .int (w83)), (0, .ref (x0)), (1, .ref (x1))] rfl ?_
    refine x_goto C dX11_say_111 73 (by decide) ?_
    refine x_lv [2, 3, 0] (lv' := [(0, .ref (x0)), (1, .ref (x1)), (2, .int (v108))]) rfl ?_
    exact hK _ (Option.some.inj hf).symm
noncomputable def fX11_say (σ : St) (x0 : Nat) : Option ((Int32 × St)) :=
(gR σ x0 10 3).bind fun v1 =>
(gR σ v1 2 0).bind fun v4 =>
(wrF σ x0 10 19 (.int (0))).bind fun σ10 =>
(iterP (fLX11_say_15 x0 v4) (0, σ10)).bind fun b15 =>
(isO b15 x0 10).bind fun _ =>
(fX11_saySign b15 x0 47).bind fun w68 =>
(iterP (fLX11_say_73 x0 v4) (0, w68)).bind fun b73 =>
(gI b73 x0 10 19).bind fun v115 =>
some (v115, b73)
set_option maxHeartbeats 4000000 in
set_option maxRecDepth 100000 in
theorem cX11_sayc {l : Launch} {G : xG} {A : Nat → Prop} {σ : St} {x0 : Nat} {c : (Int32 × St)} (hf : fX11_say σ x0 = some c) : Con l yX11_say (xws yX11_say cX11_say 4 (some .int)) rmX11_say [.ref (x0)] G A σ (some (.int c.1)) c.2 := by
  refine x_start rfl (Nat.le_of_ble_eq_true rfl) (fun X _ _ _ C hE0 => ?_)
  have hE : ∀ r, c = r → xE1 X (some (.int r.1)) r.2 := fun r e => e ▸ hE0
  show V X (0, 0) σ 0 [(0, .ref (x0))] []
  unfold fX11_say at hf
  refine x_aload_n C dX11_say_0 1 rfl 0 rfl rfl ?_
  obtain ⟨v1, hv1, hf⟩ := x_bind hf
  refine x_getR C dX11_say_1 4 rfl hv1 cl10 rfl w518 ?_
  obtain ⟨v4, hv4, hf⟩ := x_bind hf
  refine x_getR C dX11_say_4 7 rfl hv4 cl2 rfl w235 ?_
  refine x_astore_n C dX11_say_7 8 rfl rfl rfl [(1, .ref (v4)), (0, .ref (x0))] rfl ?_
  refine x_aload_n C dX11_say_8 9 rfl 1 rfl rfl ?_
  refine x_iconst C dX11_say_9 10 rfl 0 (by decide) ?_
  obtain ⟨σ10, hσ10, hf⟩ := x_bind hf
  refine x_putX C dX11_say_10 13 rfl hσ10 cl10 rfl w534 rfl rfl rfl ?_
  refine x_iconst C dX11_say_13 14 rfl 0 (by decide) ?_
  refine x_istore_n C dX11_say_14 15 rfl rfl rfl [(2, .int (0)), (1, .ref (v4)), (0, .ref (x0))] rfl ?_
  obtain ⟨b15, hb15, hf⟩ := x_bind hf
  refine x_lv [2, 1, 0] (lv' := [(0, .ref (x0)), (1, .ref (v4)), (2, .int (0))]) rfl ?_
  refine lpX11_say_15 C hb15 (fun s15 e15 => ?_)
  subst e15
  refine x_aload_n C dX11_say_65 66 rfl 0 rfl rfl ?_
  refine x_bipush C dX11_say_66 68 rfl 47 (by decide) ?_
  obtain ⟨o68, ho68, hf⟩ := x_bind hf
  obtain ⟨w68, hw68, hf⟩ := x_bind hf
  refine x_callVv C dX11_say_68 71 rfl ho68 cl10.1 rfl (cX11_saySignc hw68) kX11_saySign kvX11_saySign w716 ⟨rfl, rfl⟩ ⟨Nat.le_of_ble_eq_true rfl, Nat.le_of_ble_eq_true rfl⟩ ⟨Nat.zero_le _, Nat.zero_le _⟩ rfl rfl (Nat.le_of_ble_eq_true rfl) ?_
  refine x_iconst C dX11_say_71 72 rfl 0 (by decide) ?_
  refine x_istore_n C dX11_say_72 73 rfl rfl rfl [(2, .int (0)), (0, .ref (x0)), (1, .ref (v4))] rfl ?_
  obtain ⟨b73, hb73, hf⟩ := x_bind hf
  refine x_lv [1, 2, 0] (lv' := [(0, .ref (x0)), (1, .ref (v4)), (2, .int (0))]) rfl ?_
  refine lpX11_say_73 C hb73 (fun s73 e73 => ?_)
  subst e73
  refine x_aload_n C dX11_say_114 115 rfl 0 rfl rfl ?_
  obtain ⟨v115, hv115, hf⟩ := x_bind hf
  refine x_getI C dX11_say_115 118 rfl hv115 cl10 rfl w534 ?_
  exact x_iret C (hE _ (Option.some.inj hf).symm) dX11_say_118
