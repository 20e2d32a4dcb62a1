/-! methods: X12_ruleOf X12_whereOf X12_laysStep X12_stepsOf X12_laysDrawing X12_areOne X12_wordAt X12_at -/
theorem dX12_ruleOf_0 : decode cX12_ruleOf 0 = .ok (.aload_n 0, 1) := by decide +kernel
theorem dX12_ruleOf_1 : decode cX12_ruleOf 1 = .ok (.getfield 13, 3) := by decide +kernel
theorem dX12_ruleOf_4 : decode cX12_ruleOf 4 = .ok (.iload_n 1, 1) := by decide +kernel
theorem dX12_ruleOf_5 : decode cX12_ruleOf 5 = .ok (.iconst 3, 1) := by decide +kernel
theorem dX12_ruleOf_6 : decode cX12_ruleOf 6 = .ok (.iload_n 2, 1) := by decide +kernel
theorem dX12_ruleOf_7 : decode cX12_ruleOf 7 = .ok (.iadd, 1) := by decide +kernel
theorem dX12_ruleOf_8 : decode cX12_ruleOf 8 = .ok (.invokestatic 124, 3) := by decide +kernel
theorem dX12_ruleOf_11 : decode cX12_ruleOf 11 = .ok (.laload, 1) := by decide +kernel
theorem dX12_ruleOf_12 : decode cX12_ruleOf 12 = .ok (.ldc2_w 480, 3) := by decide +kernel
theorem dX12_ruleOf_15 : decode cX12_ruleOf 15 = .ok (.ldiv, 1) := by decide +kernel
theorem dX12_ruleOf_16 : decode cX12_ruleOf 16 = .ok (.l2i, 1) := by decide +kernel
theorem dX12_ruleOf_17 : decode cX12_ruleOf 17 = .ok (.ireturn, 1) := by decide +kernel
abbrev rmX12_ruleOf : Room := { frames := 1, cells := 0, slots := 0, locals := 21 }
noncomputable def fX12_ruleOf (σ : St) (x0 : Nat) (x1 : Int32) (x2 : Int32) : Option (Int32) :=
(gR σ x0 11 1).bind fun v1 =>
(fX12_place x1 (3 + x2)).bind fun w8 =>
(aL σ v1 w8).bind fun v11 =>
some ((v11 / 16).toInt32)
set_option maxHeartbeats 4000000 in
set_option maxRecDepth 100000 in
theorem cX12_ruleOfc {l : Launch} {G : xG} {A : Nat → Prop} {σ : St} {x0 : Nat} {x1 : Int32} {x2 : Int32} {c : Int32} (hf : fX12_ruleOf σ x0 x1 x2 = some c) : Con l yX12_ruleOf (xws yX12_ruleOf cX12_ruleOf 3 (some .int)) rmX12_ruleOf [.ref (x0), .int (x1), .int (x2)] G A σ (some (.int c)) σ := by
  refine x_start rfl (Nat.le_of_ble_eq_true rfl) (fun X _ _ _ C hE0 => ?_)
  have hE : ∀ r, c = r → xE1 X (some (.int r)) σ := fun r e => e ▸ hE0
  show V X (0, 0) σ 0 [(0, .ref (x0)), (1, .int (x1)), (2, .int (x2))] []
  unfold fX12_ruleOf at hf
  refine x_aload_n C dX12_ruleOf_0 1 rfl 0 rfl rfl ?_
  obtain ⟨v1, hv1, hf⟩ := x_bind hf
  refine x_getR C dX12_ruleOf_1 4 rfl hv1 cl11 rfl w1444 ?_
  refine x_iload_n C dX12_ruleOf_4 5 rfl 1 rfl rfl ?_
  refine x_iconst C dX12_ruleOf_5 6 rfl 3 (by decide) ?_
  refine x_iload_n C dX12_ruleOf_6 7 rfl 2 rfl rfl ?_
  refine x_iadd C dX12_ruleOf_7 8 rfl ?_
  obtain ⟨w8, hw8, hf⟩ := x_bind hf
  refine x_callSi C dX12_ruleOf_8 11 rfl (cX12_placec hw8) kX12_place ksX12_place w1849 ⟨rfl, rfl⟩ ⟨Nat.le_of_ble_eq_true rfl, Nat.le_of_ble_eq_true rfl⟩ ⟨Nat.zero_le _, Nat.zero_le _⟩ rfl rfl (Nat.le_of_ble_eq_true rfl) ?_
  obtain ⟨v11, hv11, hf⟩ := x_bind hf
  refine x_laload C dX12_ruleOf_11 12 rfl hv11 ?_
  refine x_ldc2 C dX12_ruleOf_12 15 rfl w2004 ?_
  refine x_ldiv C dX12_ruleOf_15 16 rfl (by decide) ?_
  refine x_l2i C dX12_ruleOf_16 17 rfl ?_
  exact x_iret C (hE _ (Option.some.inj hf).symm) dX12_ruleOf_17
theorem dX12_whereOf_0 : decode cX12_whereOf 0 = .ok (.aload_n 0, 1) := by decide +kernel
theorem dX12_whereOf_1 : decode cX12_whereOf 1 = .ok (.getfield 13, 3) := by decide +kernel
theorem dX12_whereOf_4 : decode cX12_whereOf 4 = .ok (.iload_n 1, 1) := by decide +kernel
theorem dX12_whereOf_5 : decode cX12_whereOf 5 = .ok (.iconst 3, 1) := by decide +kernel
theorem dX12_whereOf_6 : decode cX12_whereOf 6 = .ok (.iload_n 2, 1) := by decide +kernel
theorem dX12_whereOf_7 : decode cX12_whereOf 7 = .ok (.iadd, 1) := by decide +kernel
theorem dX12_whereOf_8 : decode cX12_whereOf 8 = .ok (.invokestatic 124, 3) := by decide +kernel
theorem dX12_whereOf_11 : decode cX12_whereOf 11 = .ok (.laload, 1) := by decide +kernel
theorem dX12_whereOf_12 : decode cX12_whereOf 12 = .ok (.ldc2_w 480, 3) := by decide +kernel
theorem dX12_whereOf_15 : decode cX12_whereOf 15 = .ok (.lrem, 1) := by decide +kernel
theorem dX12_whereOf_16 : decode cX12_whereOf 16 = .ok (.l2i, 1) := by decide +kernel
theorem dX12_whereOf_17 : decode cX12_whereOf 17 = .ok (.ireturn, 1) := by decide +kernel
abbrev rmX12_whereOf : Room := { frames := 1, cells := 0, slots := 0, locals := 21 }
noncomputable def fX12_whereOf (σ : St) (x0 : Nat) (x1 : Int32) (x2 : Int32) : Option (Int32) :=
(gR σ x0 11 1).bind fun v1 =>
(fX12_place x1 (3 + x2)).bind fun w8 =>
(aL σ v1 w8).bind fun v11 =>
some ((v11 - v11 / 16 * 16).toInt32)
set_option maxHeartbeats 4000000 in
set_option maxRecDepth 100000 in
theorem cX12_whereOfc {l : Launch} {G : xG} {A : Nat → Prop} {σ : St} {x0 : Nat} {x1 : Int32} {x2 : Int32} {c : Int32} (hf : fX12_whereOf σ x0 x1 x2 = some c) : Con l yX12_whereOf (xws yX12_whereOf cX12_whereOf 3 (some .int)) rmX12_whereOf [.ref (x0), .int (x1), .int (x2)] G A σ (some (.int c)) σ := by
  refine x_start rfl (Nat.le_of_ble_eq_true rfl) (fun X _ _ _ C hE0 => ?_)
  have hE : ∀ r, c = r → xE1 X (some (.int r)) σ := fun r e => e ▸ hE0
  show V X (0, 0) σ 0 [(0, .ref (x0)), (1, .int (x1)), (2, .int (x2))] []
  unfold fX12_whereOf at hf
  refine x_aload_n C dX12_whereOf_0 1 rfl 0 rfl rfl ?_
  obtain ⟨v1, hv1, hf⟩ := x_bind hf
  refine x_getR C dX12_whereOf_1 4 rfl hv1 cl11 rfl w1444 ?_
  refine x_iload_n C dX12_whereOf_4 5 rfl 1 rfl rfl ?_
  refine x_iconst C dX12_whereOf_5 6 rfl 3 (by decide) ?_
  refine x_iload_n C dX12_whereOf_6 7 rfl 2 rfl rfl ?_
  refine x_iadd C dX12_whereOf_7 8 rfl ?_
  obtain ⟨w8, hw8, hf⟩ := x_bind hf
  refine x_callSi C dX12_whereOf_8 11 rfl (cX12_placec hw8) kX12_place ksX12_place w1849 ⟨rfl, rfl⟩ ⟨Nat.le_of_ble_eq_true rfl, Nat.le_of_ble_eq_true rfl⟩ ⟨Nat.zero_le _, Nat.zero_le _⟩ rfl rfl (Nat.le_of_ble_eq_true rfl) ?_
  obtain ⟨v11, hv11, hf⟩ := x_bind hf
  refine x_laload C dX12_whereOf_11 12 rfl hv11 ?_
  refine x_ldc2 C dX12_whereOf_12 15 rfl w2004 ?_
  refine x_lrem C dX12_whereOf_15 16 rfl (by decide) ?_
  refine x_l2i C dX12_whereOf_16 17 rfl ?_
  exact x_iret C (hE _ (Option.some.inj hf).symm) dX12_whereOf_17
theorem dX12_laysStep_0 : decode cX12_laysStep 0 = .ok (.aload_n 0, 1) := by decide +kernel
theorem dX12_laysStep_1 : decode cX12_laysStep 1 = .ok (.iload_n 1, 1) := by decide +kernel
theorem dX12_laysStep_2 : decode cX12_laysStep 2 = .ok (.iload_n 2, 1) := by decide +kernel
theorem dX12_laysStep_3 : decode cX12_laysStep 3 = .ok (.invokevirtual 526, 3) := by decide +kernel
theorem dX12_laysStep_6 : decode cX12_laysStep 6 = .ok (.istore_n 3, 1) := by decide +kernel
theorem dX12_laysStep_7 : decode cX12_laysStep 7 = .ok (.aload_n 0, 1) := by decide +kernel
theorem dX12_laysStep_8 : decode cX12_laysStep 8 = .ok (.iload_n 1, 1) := by decide +kernel
theorem dX12_laysStep_9 : decode cX12_laysStep 9 = .ok (.iload_n 2, 1) := by decide +kernel
theorem dX12_laysStep_10 : decode cX12_laysStep 10 = .ok (.invokevirtual 529, 3) := by decide +kernel
theorem dX12_laysStep_13 : decode cX12_laysStep 13 = .ok (.istore 4, 2) := by decide +kernel
theorem dX12_laysStep_15 : decode cX12_laysStep 15 = .ok (.aload_n 0, 1) := by decide +kernel
theorem dX12_laysStep_16 : decode cX12_laysStep 16 = .ok (.getfield 76, 3) := by decide +kernel
theorem dX12_laysStep_19 : decode cX12_laysStep 19 = .ok (.iload_n 2, 1) := by decide +kernel
theorem dX12_laysStep_20 : decode cX12_laysStep 20 = .ok (.aload_n 0, 1) := by decide +kernel
theorem dX12_laysStep_21 : decode cX12_laysStep 21 = .ok (.iload 4, 2) := by decide +kernel
theorem dX12_laysStep_23 : decode cX12_laysStep 23 = .ok (.invokevirtual 285, 3) := by decide +kernel
theorem dX12_laysStep_26 : decode cX12_laysStep 26 = .ok (.invokestatic 136, 3) := by decide +kernel
theorem dX12_laysStep_29 : decode cX12_laysStep 29 = .ok (.iastore, 1) := by decide +kernel
theorem dX12_laysStep_30 : decode cX12_laysStep 30 = .ok (.aload_n 0, 1) := by decide +kernel
theorem dX12_laysStep_31 : decode cX12_laysStep 31 = .ok (.getfield 82, 3) := by decide +kernel
theorem dX12_laysStep_34 : decode cX12_laysStep 34 = .ok (.iload_n 2, 1) := by decide +kernel
theorem dX12_laysStep_35 : decode cX12_laysStep 35 = .ok (.aload_n 0, 1) := by decide +kernel
theorem dX12_laysStep_36 : decode cX12_laysStep 36 = .ok (.iload 4, 2) := by decide +kernel
theorem dX12_laysStep_38 : decode cX12_laysStep 38 = .ok (.invokevirtual 288, 3) := by decide +kernel
theorem dX12_laysStep_41 : decode cX12_laysStep 41 = .ok (.invokestatic 136, 3) := by decide +kernel
theorem dX12_laysStep_44 : decode cX12_laysStep 44 = .ok (.iastore, 1) := by decide +kernel
theorem dX12_laysStep_45 : decode cX12_laysStep 45 = .ok (.iconst 0, 1) := by decide +kernel
theorem dX12_laysStep_46 : decode cX12_laysStep 46 = .ok (.istore 5, 2) := by decide +kernel
theorem dX12_laysStep_48 : decode cX12_laysStep 48 = .ok (.lconst 0, 1) := by decide +kernel
theorem dX12_laysStep_49 : decode cX12_laysStep 49 = .ok (.lstore 6, 2) := by decide +kernel
theorem dX12_laysStep_51 : decode cX12_laysStep 51 = .ok (.aload_n 0, 1) := by decide +kernel
theorem dX12_laysStep_52 : decode cX12_laysStep 52 = .ok (.getfield 85, 3) := by decide +kernel
theorem dX12_laysStep_55 : decode cX12_laysStep 55 = .ok (.iload_n 2, 1) := by decide +kernel
theorem dX12_laysStep_56 : decode cX12_laysStep 56 = .ok (.iconst 1, 1) := by decide +kernel
theorem dX12_laysStep_57 : decode cX12_laysStep 57 = .ok (.iastore, 1) := by decide +kernel
theorem dX12_laysStep_58 : decode cX12_laysStep 58 = .ok (.iconst 0, 1) := by decide +kernel
theorem dX12_laysStep_59 : decode cX12_laysStep 59 = .ok (.istore 8, 2) := by decide +kernel
theorem dX12_laysStep_61 : decode cX12_laysStep 61 = .ok (.iload 8, 2) := by decide +kernel
theorem dX12_laysStep_63 : decode cX12_laysStep 63 = .ok (.aload_n 0, 1) := by decide +kernel
theorem dX12_laysStep_64 : decode cX12_laysStep 64 = .ok (.getfield 76, 3) := by decide +kernel
theorem dX12_laysStep_67 : decode cX12_laysStep 67 = .ok (.iload_n 2, 1) := by decide +kernel
theorem dX12_laysStep_68 : decode cX12_laysStep 68 = .ok (.iaload, 1) := by decide +kernel
theorem dX12_laysStep_69 : decode cX12_laysStep 69 = .ok (.if_icmp .ge 108, 3) := by decide +kernel
theorem dX12_laysStep_72 : decode cX12_laysStep 72 = .ok (.aload_n 0, 1) := by decide +kernel
theorem dX12_laysStep_73 : decode cX12_laysStep 73 = .ok (.getfield 100, 3) := by decide +kernel
theorem dX12_laysStep_76 : decode cX12_laysStep 76 = .ok (.iload_n 3, 1) := by decide +kernel
theorem dX12_laysStep_77 : decode cX12_laysStep 77 = .ok (.iload 8, 2) := by decide +kernel
theorem dX12_laysStep_79 : decode cX12_laysStep 79 = .ok (.iadd, 1) := by decide +kernel
theorem dX12_laysStep_80 : decode cX12_laysStep 80 = .ok (.iaload, 1) := by decide +kernel
theorem dX12_laysStep_81 : decode cX12_laysStep 81 = .ok (.istore 9, 2) := by decide +kernel
theorem dX12_laysStep_83 : decode cX12_laysStep 83 = .ok (.aload_n 0, 1) := by decide +kernel
theorem dX12_laysStep_84 : decode cX12_laysStep 84 = .ok (.getfield 73, 3) := by decide +kernel
theorem dX12_laysStep_87 : decode cX12_laysStep 87 = .ok (.bipush 16, 2) := by decide +kernel
theorem dX12_laysStep_89 : decode cX12_laysStep 89 = .ok (.iload_n 2, 1) := by decide +kernel
theorem dX12_laysStep_90 : decode cX12_laysStep 90 = .ok (.imul, 1) := by decide +kernel
theorem dX12_laysStep_91 : decode cX12_laysStep 91 = .ok (.iload 8, 2) := by decide +kernel
theorem dX12_laysStep_93 : decode cX12_laysStep 93 = .ok (.iadd, 1) := by decide +kernel
theorem dX12_laysStep_94 : decode cX12_laysStep 94 = .ok (.iload 9, 2) := by decide +kernel
theorem dX12_laysStep_96 : decode cX12_laysStep 96 = .ok (.iastore, 1) := by decide +kernel
theorem dX12_laysStep_97 : decode cX12_laysStep 97 = .ok (.aload_n 0, 1) := by decide +kernel
theorem dX12_laysStep_98 : decode cX12_laysStep 98 = .ok (.getfield 70, 3) := by decide +kernel
theorem dX12_laysStep_101 : decode cX12_laysStep 101 = .ok (.iload 9, 2) := by decide +kernel
theorem dX12_laysStep_103 : decode cX12_laysStep 103 = .ok (.iload_n 2, 1) := by decide +kernel
theorem dX12_laysStep_104 : decode cX12_laysStep 104 = .ok (.iastore, 1) := by decide +kernel
theorem dX12_laysStep_105 : decode cX12_laysStep 105 = .ok (.aload_n 0, 1) := by decide +kernel
theorem dX12_laysStep_106 : decode cX12_laysStep 106 = .ok (.getfield 67, 3) := by decide +kernel
theorem dX12_laysStep_109 : decode cX12_laysStep 109 = .ok (.iload 9, 2) := by decide +kernel
theorem dX12_laysStep_111 : decode cX12_laysStep 111 = .ok (.iaload, 1) := by decide +kernel
theorem dX12_laysStep_112 : decode cX12_laysStep 112 = .ok (.istore 10, 2) := by decide +kernel
theorem dX12_laysStep_114 : decode cX12_laysStep 114 = .ok (.iload 10, 2) := by decide +kernel
theorem dX12_laysStep_116 : decode cX12_laysStep 116 = .ok (.iconst (-1), 1) := by decide +kernel
theorem dX12_laysStep_117 : decode cX12_laysStep 117 = .ok (.if_icmp .eq 54, 3) := by decide +kernel
theorem dX12_laysStep_120 : decode cX12_laysStep 120 = .ok (.lload 6, 2) := by decide +kernel
theorem dX12_laysStep_122 : decode cX12_laysStep 122 = .ok (.iload 10, 2) := by decide +kernel
theorem dX12_laysStep_124 : decode cX12_laysStep 124 = .ok (.lshr, 1) := by decide +kernel
theorem dX12_laysStep_125 : decode cX12_laysStep 125 = .ok (.lconst 1, 1) := by decide +kernel
theorem dX12_laysStep_126 : decode cX12_laysStep 126 = .ok (.land, 1) := by decide +kernel
theorem dX12_laysStep_127 : decode cX12_laysStep 127 = .ok (.lconst 1, 1) := by decide +kernel
theorem dX12_laysStep_128 : decode cX12_laysStep 128 = .ok (.lcmp, 1) := by decide +kernel
theorem dX12_laysStep_129 : decode cX12_laysStep 129 = .ok (.ifCond .ne 6, 3) := by decide +kernel
theorem dX12_laysStep_132 : decode cX12_laysStep 132 = .ok (.goto 39, 3) := by decide +kernel
theorem dX12_laysStep_135 : decode cX12_laysStep 135 = .ok (.lload 6, 2) := by decide +kernel
theorem dX12_laysStep_137 : decode cX12_laysStep 137 = .ok (.lconst 1, 1) := by decide +kernel
theorem dX12_laysStep_138 : decode cX12_laysStep 138 = .ok (.iload 10, 2) := by decide +kernel
theorem dX12_laysStep_140 : decode cX12_laysStep 140 = .ok (.lshl, 1) := by decide +kernel
theorem dX12_laysStep_141 : decode cX12_laysStep 141 = .ok (.lor, 1) := by decide +kernel
theorem dX12_laysStep_142 : decode cX12_laysStep 142 = .ok (.lstore 6, 2) := by decide +kernel
theorem dX12_laysStep_144 : decode cX12_laysStep 144 = .ok (.iinc 5 1, 3) := by decide +kernel
theorem dX12_laysStep_147 : decode cX12_laysStep 147 = .ok (.aload_n 0, 1) := by decide +kernel
theorem dX12_laysStep_148 : decode cX12_laysStep 148 = .ok (.getfield 85, 3) := by decide +kernel
theorem dX12_laysStep_151 : decode cX12_laysStep 151 = .ok (.iload_n 2, 1) := by decide +kernel
theorem dX12_laysStep_152 : decode cX12_laysStep 152 = .ok (.aload_n 0, 1) := by decide +kernel
theorem dX12_laysStep_153 : decode cX12_laysStep 153 = .ok (.getfield 85, 3) := by decide +kernel
theorem dX12_laysStep_156 : decode cX12_laysStep 156 = .ok (.iload_n 2, 1) := by decide +kernel
theorem dX12_laysStep_157 : decode cX12_laysStep 157 = .ok (.iaload, 1) := by decide +kernel
theorem dX12_laysStep_158 : decode cX12_laysStep 158 = .ok (.aload_n 0, 1) := by decide +kernel
theorem dX12_laysStep_159 : decode cX12_laysStep 159 = .ok (.getfield 85, 3) := by decide +kernel
theorem dX12_laysStep_162 : decode cX12_laysStep 162 = .ok (.iload 10, 2) := by decide +kernel
theorem dX12_laysStep_164 : decode cX12_laysStep 164 = .ok (.iaload, 1) := by decide +kernel
theorem dX12_laysStep_165 : decode cX12_laysStep 165 = .ok (.iconst 1, 1) := by decide +kernel
theorem dX12_laysStep_166 : decode cX12_laysStep 166 = .ok (.iadd, 1) := by decide +kernel
theorem dX12_laysStep_167 : decode cX12_laysStep 167 = .ok (.invokestatic 532, 3) := by decide +kernel
theorem dX12_laysStep_170 : decode cX12_laysStep 170 = .ok (.iastore, 1) := by decide +kernel
theorem dX12_laysStep_171 : decode cX12_laysStep 171 = .ok (.iinc 8 1, 3) := by decide +kernel
theorem dX12_laysStep_174 : decode cX12_laysStep 174 = .ok (.goto (-113), 3) := by decide +kernel
theorem dX12_laysStep_177 : decode cX12_laysStep 177 = .ok (.aload_n 0, 1) := by decide +kernel
theorem dX12_laysStep_178 : decode cX12_laysStep 178 = .ok (.getfield 88, 3) := by decide +kernel
theorem dX12_laysStep_181 : decode cX12_laysStep 181 = .ok (.iload_n 2, 1) := by decide +kernel
theorem dX12_laysStep_182 : decode cX12_laysStep 182 = .ok (.iload 5, 2) := by decide +kernel
theorem dX12_laysStep_184 : decode cX12_laysStep 184 = .ok (.iastore, 1) := by decide +kernel
theorem dX12_laysStep_185 : decode cX12_laysStep 185 = .ok (.aload_n 0, 1) := by decide +kernel
theorem dX12_laysStep_186 : decode cX12_laysStep 186 = .ok (.getfield 79, 3) := by decide +kernel
theorem dX12_laysStep_189 : decode cX12_laysStep 189 = .ok (.iload_n 2, 1) := by decide +kernel
theorem dX12_laysStep_190 : decode cX12_laysStep 190 = .ok (.aload_n 0, 1) := by decide +kernel
theorem dX12_laysStep_191 : decode cX12_laysStep 191 = .ok (.getfield 517, 3) := by decide +kernel
theorem dX12_laysStep_194 : decode cX12_laysStep 194 = .ok (.iastore, 1) := by decide +kernel
theorem dX12_laysStep_195 : decode cX12_laysStep 195 = .ok (.iconst 0, 1) := by decide +kernel
theorem dX12_laysStep_196 : decode cX12_laysStep 196 = .ok (.istore 8, 2) := by decide +kernel
theorem dX12_laysStep_198 : decode cX12_laysStep 198 = .ok (.iload 8, 2) := by decide +kernel
theorem dX12_laysStep_200 : decode cX12_laysStep 200 = .ok (.aload_n 0, 1) := by decide +kernel
theorem dX12_laysStep_201 : decode cX12_laysStep 201 = .ok (.getfield 82, 3) := by decide +kernel
theorem dX12_laysStep_204 : decode cX12_laysStep 204 = .ok (.iload_n 2, 1) := by decide +kernel
theorem dX12_laysStep_205 : decode cX12_laysStep 205 = .ok (.iaload, 1) := by decide +kernel
theorem dX12_laysStep_206 : decode cX12_laysStep 206 = .ok (.if_icmp .ge 15, 3) := by decide +kernel
theorem dX12_laysStep_209 : decode cX12_laysStep 209 = .ok (.aload_n 0, 1) := by decide +kernel
theorem dX12_laysStep_210 : decode cX12_laysStep 210 = .ok (.iload_n 2, 1) := by decide +kernel
theorem dX12_laysStep_211 : decode cX12_laysStep 211 = .ok (.invokevirtual 523, 3) := by decide +kernel
theorem dX12_laysStep_214 : decode cX12_laysStep 214 = .ok (.pop, 1) := by decide +kernel
theorem dX12_laysStep_215 : decode cX12_laysStep 215 = .ok (.iinc 8 1, 3) := by decide +kernel
theorem dX12_laysStep_218 : decode cX12_laysStep 218 = .ok (.goto (-20), 3) := by decide +kernel
theorem dX12_laysStep_221 : decode cX12_laysStep 221 = .ok (.aload_n 0, 1) := by decide +kernel
theorem dX12_laysStep_222 : decode cX12_laysStep 222 = .ok (.iload_n 3, 1) := by decide +kernel
theorem dX12_laysStep_223 : decode cX12_laysStep 223 = .ok (.iload_n 2, 1) := by decide +kernel
theorem dX12_laysStep_224 : decode cX12_laysStep 224 = .ok (.invokevirtual 535, 3) := by decide +kernel
theorem dX12_laysStep_227 : decode cX12_laysStep 227 = .ok (.return_, 1) := by decide +kernel
abbrev rmX12_laysStep : Room := { frames := 2, cells := 0, slots := 0, locals := 60 }
noncomputable def fLX12_laysStep_61 (x0 : Nat) (x2 : Int32) (x3 : Int32) (a : Int32 × Int64 × Int32 × St) : Option ((Int32 × Int64 × Int32 × St) ⊕ (Int32 × St)) :=
(gR a.2.2.2 x0 11 46).bind fun v64 =>
(aI a.2.2.2 v64 0 x2).bind fun v68 =>
if v68 ≤ a.2.2.1 then
(some (Sum.inr (a.1, a.2.2.2)))
else
((gR a.2.2.2 x0 11 54).bind fun v73 =>
(aI a.2.2.2 v73 0 (x3 + a.2.2.1)).bind fun v80 =>
(gR a.2.2.2 x0 11 45).bind fun v84 =>
(sI a.2.2.2 v84 ((16 * x2) + a.2.2.1) v80).bind fun σ96 =>
(gR σ96 x0 11 43).bind fun v98 =>
(sI σ96 v98 v80 x2).bind fun σ104 =>
(gR σ104 x0 11 42).bind fun v106 =>
(aI σ104 v106 0 v80).bind fun v111 =>
if v111 = (((-1) : Int32)) then
(xlet (a.2.2.1 + 1) fun v171 =>
some (Sum.inl (a.1, a.2.1, v171, σ104)))
else
(if (lg_cmp ((a.2.1 >>> ((v111).toInt64 &&& 63)) &&& 1) 1) = 0 then
(xlet (a.2.2.1 + 1) fun v171 =>
some (Sum.inl (a.1, a.2.1, v171, σ104)))
else
(xlet (a.2.1 ||| (1 <<< ((v111).toInt64 &&& 63))) fun v142 =>
xlet (a.1 + 1) fun v144 =>
(gR σ104 x0 11 49).bind fun v148 =>
(gR σ104 x0 11 49).bind fun v153 =>
(aI σ104 v153 0 x2).bind fun v157 =>
(gR σ104 x0 11 49).bind fun v159 =>
(aI σ104 v159 0 v111).bind fun v164 =>
(sI σ104 v148 x2 (imax v157 (v164 + 1))).bind fun σ170 =>
xlet (a.2.2.1 + 1) fun v171 =>
some (Sum.inl (v144, v142, v171, σ170)))))
set_option maxHeartbeats 4000000 in
set_option maxRecDepth 100000 in
theorem lpX12_laysStep_61 {X : xX} {x0 : Nat} {x2 : Int32} {x3 : Int32}  {a0 : Int32 × Int64 × Int32 × St} {b : Int32 × St} (C : Ok X cX12_laysStep 11 RX12 rmX12_laysStep none) (hb : iterP (fLX12_laysStep_61 x0 x2 x3) a0 = some b) (hy0 : ∀ s, b = s → V X (0, 0) s.2 177 [(0, .ref (x0)), (2, .int (x2)), (3, .int (x3)), (5, .int (s.1))] []) : V X (0, 0) a0.2.2.2 61 [(0, .ref (x0)), (2, .int (x2)), (3, .int (x3)), (5, .int (a0.1)), (6, .long (a0.2.1)), (8, .int (a0.2.2.1))] [] := by
  obtain ⟨n, hn⟩ := iterP_some hb
  refine x_loop (P := fun a => V X (0, 0) a.2.2.2 61 [(0, .ref (x0)), (2, .int (x2)), (3, .int (x3)), (5, .int (a.1)), (6, .long (a.2.1)), (8, .int (a.2.2.1))] []) ?_ n a0 hn
  intro a c hf hK hxx
  have hx0 : ∀ s, c = Sum.inr s → V X (0, 0) s.2 177 [(0, .ref (x0)), (2, .int (x2)), (3, .int (x3)), (5, .int (s.1))] [] := fun s e => hy0 s (hxx _ e).symm
  unfold fLX12_laysStep_61 at hf
  refine x_iload C dX12_laysStep_61 63 rfl 5 rfl ?_
  refine x_aload_n C dX12_laysStep_63 64 rfl 0 rfl rfl ?_
  obtain ⟨v64, hv64, hf⟩ := x_bind hf
  refine x_getR C dX12_laysStep_64 67 rfl hv64 cl11 rfl w1489 ?_
  refine x_iload_n C dX12_laysStep_67 68 rfl 1 rfl rfl ?_
  obtain ⟨v68, hv68, hf⟩ := x_bind hf
  refine x_iaload C dX12_laysStep_68 69 rfl hv68 ?_
  refine x_icmp_ge C dX12_laysStep_69 177 (by decide) 72 rfl (fun hc => ?_) (fun hc => ?_)
  · have hf := (if_pos hc).symm.trans hf
    refine x_lv [0, 1, 2, 3] (lv' := [(0, .ref (x0)), (2, .int (x2)), (3, .int (x3)), (5, .int (a.1))]) rfl ?_
    exact hx0 _ (Option.some.inj hf).symm
  · have hf := (if_neg hc).symm.trans hf
    refine x_aload_n C dX12_laysStep_72 73 rfl 0 rfl rfl ?_
    obtain ⟨v73, hv73, hf⟩ := x_bind hf
    refine x_getR C dX12_laysStep_73 76 rfl hv73 cl11 rfl w1497 ?_
    refine x_iload_n C dX12_laysStep_76 77 rfl 2 rfl rfl ?_
    refine x_iload C dX12_laysStep_77 79 rfl 5 rfl ?_
    refine x_iadd C dX12_laysStep_79 80 rfl ?_
    obtain ⟨v80, hv80, hf⟩ := x_bind hf
    refine x_iaload C dX12_laysStep_80 81 rfl hv80 ?_
    refine x_istore C dX12_laysStep_81 83 rfl rfl [(9, .int (v80)), (0, .ref (x0)), (2, .int (x2)), (3, .int (x3)), (5, .int (a.1)), (6, .long (a.2.1)), (8, .int (a.2.2.1))] rfl ?_
    refine x_aload_n C dX12_laysStep_83 84 rfl 1 rfl rfl ?_
    obtain ⟨v84, hv84, hf⟩ := x_bind hf
    refine x_getR C dX12_laysStep_84 87 rfl hv84 cl11 rfl w1488 ?_
    refine x_bipush C dX12_laysStep_87 89 rfl 16 (by decide) ?_
    refine x_iload_n C dX12_laysStep_89 90 rfl 2 rfl rfl ?_
    refine x_imul C dX12_laysStep_90 91 rfl ?_
    refine x_iload C dX12_laysStep_91 93 rfl 6 rfl ?_
    refine x_iadd C dX12_laysStep_93 94 rfl ?_
    refine x_iload C dX12_laysStep_94 96 rfl 0 rfl ?_
    obtain ⟨σ96, hσ96, hf⟩ := x_bind hf
    refine x_iastore C dX12_laysStep_96 97 rfl hσ96 ?_
    refine x_aload_n C dX12_laysStep_97 98 rfl 1 rfl rfl ?_
    obtain ⟨v98, hv98, hf⟩ := x_bind hf
    refine x_getR C dX12_laysStep_98 101 rfl hv98 cl11 rfl w1486 ?_
    refine x_iload C dX12_laysStep_101 103 rfl 0 rfl ?_
    refine x_iload_n C dX12_laysStep_103 104 rfl 2 rfl rfl ?_
    obtain ⟨σ104, hσ104, hf⟩ := x_bind hf
    refine x_iastore C dX12_laysStep_104 105 rfl hσ104 ?_
    refine x_aload_n C dX12_laysStep_105 106 rfl 1 rfl rfl ?_
    obtain ⟨v106, hv106, hf⟩ := x_bind hf
    refine x_getR C dX12_laysStep_106 109 rfl hv106 cl11 rfl w1485 ?_
    refine x_iload C dX12_laysStep_109 111 rfl 0 rfl ?_
    obtain ⟨v111, hv111, hf⟩ := x_bind hf
    refine x_iaload C dX12_laysStep_111 112 rfl hv111 ?_
    refine x_istore C dX12_laysStep_112 114 rfl rfl [(10, .int (v111)), (9, .int (v80)), (0, .ref (x0)), (2, .int (x2)), (3, .int (x3)), (5, .int (a.1)), (6, .long (a.2.1)), (8, .int (a.2.2.1))] rfl ?_
    refine x_iload C dX12_laysStep_114 116 rfl 0 rfl ?_
    refine x_iconst C dX12_laysStep_116 117 rfl (-1) (by decide) ?_
    refine x_icmp_eq C dX12_laysStep_117 171 (by decide) 120 rfl (fun hc => ?_) (fun hc => ?_)
    · have hf := (if_pos hc).symm.trans hf
      obtain ⟨v171, ev171, hf⟩ := xlet_some hf
      refine x_iinc C dX12_laysStep_171 174 rfl 7 rfl v171 ev171 rfl [(8, .int (v171)), (10, .int (v111)), (9, .int (v80)), (0, .ref (x0)), (2, .int (x2)), (3, .int (x3)), (5, .int (a.1)), (6, .long (a.2.1))] rfl ?_
      refine x_goto C dX12_laysStep_174 61 (by decide) ?_
      refine x_lv [3, 4, 5, 6, 7, 0] (lv' := [(0, .ref (x0)), (2, .int (x2)), (3, .int (x3)), (5, .int (a.1)), (6, .long (a.2.1)), (8, .int (v171))]) rfl ?_
      exact hK _ (Option.some.inj hf).symm
    · have hf := (if_neg hc).symm.trans hf
      refine x_lload C dX12_laysStep_120 122 rfl 6 rfl ?_
      refine x_iload C dX12_laysStep_122 124 rfl 0 rfl ?_
      refine x_lshr C dX12_laysStep_124 125 rfl ?_
      refine x_lconst C dX12_laysStep_125 126 rfl 1 (by decide) ?_
      refine x_land C dX12_laysStep_126 127 rfl ?_
      refine x_lconst C dX12_laysStep_127 128 rfl 1 (by decide) ?_
      refine x_lcmp C dX12_laysStep_128 129 rfl ?_
      refine x_if_ne C dX12_laysStep_129 135 (by decide) 132 rfl (fun hc => ?_) (fun hc => ?_)
      · have hf := (if_neg hc).symm.trans hf
        refine x_lload C dX12_laysStep_135 137 rfl 6 rfl ?_
        refine x_lconst C dX12_laysStep_137 138 rfl 1 (by decide) ?_
        refine x_iload C dX12_laysStep_138 140 rfl 0 rfl ?_
        refine x_lshl C dX12_laysStep_140 141 rfl ?_
        refine x_lor C dX12_laysStep_141 142 rfl ?_
        obtain ⟨v142, ev142, hf⟩ := xlet_some hf
        refine x_topl ev142 ?_
        refine x_lstore C dX12_laysStep_142 144 rfl rfl [(6, .long (v142)), (10, .int (v111)), (9, .int (v80)), (0, .ref (x0)), (2, .int (x2)), (3, .int (x3)), (5, .int (a.1)), (8, .int (a.2.2.1))] rfl ?_
        obtain ⟨v144, ev144, hf⟩ := xlet_some hf
        refine x_iinc C dX12_laysStep_144 147 rfl 6 rfl v144 ev144 rfl [(5, .int (v144)), (6, .long (v142)), (10, .int (v111)), (9, .int (v80)), (0, .ref (x0)), (2, .int (x2)), (3, .int (x3)), (8, .int (a.2.2.1))] rfl ?_
        refine x_aload_n C dX12_laysStep_147 148 rfl 4 rfl rfl ?_
        obtain ⟨v148, hv148, hf⟩ := x_bind hf
        refine x_getR C dX12_laysStep_148 151 rfl hv148 cl11 rfl w1492 ?_
        refine x_iload_n C dX12_laysStep_151 152 rfl 5 rfl rfl ?_
        refine x_aload_n C dX12_laysStep_152 153 rfl 4 rfl rfl ?_
        obtain ⟨v153, hv153, hf⟩ := x_bind hf
        refine x_getR C dX12_laysStep_153 156 rfl hv153 cl11 rfl w1492 ?_
        refine x_iload_n C dX12_laysStep_156 157 rfl 5 rfl rfl ?_
        obtain ⟨v157, hv157, hf⟩ := x_bind hf
        refine x_iaload C dX12_laysStep_157 158 rfl hv157 ?_
        refine x_aload_n C dX12_laysStep_158 159 rfl 4 rfl rfl ?_
        obtain ⟨v159, hv159, hf⟩ := x_bind hf
        refine x_getR C dX12_laysStep_159 162 rfl hv159 cl11 rfl w1492 ?_
        refine x_iload C dX12_laysStep_162 164 rfl 2 rfl ?_
        obtain ⟨v164, hv164, hf⟩ := x_bind hf
        refine x_iaload C dX12_laysStep_164 165 rfl hv164 ?_
        refine x_iconst C dX12_laysStep_165 166 rfl 1 (by decide) ?_
        refine x_iadd C dX12_laysStep_166 167 rfl ?_
        refine x_mmax C dX12_laysStep_167 170 rfl w2009 mmaxw ⟨Nat.le_of_ble_eq_true rfl, Nat.le_of_ble_eq_true rfl⟩ ⟨Nat.zero_le _, Nat.zero_le _⟩ ?_
        obtain ⟨σ170, hσ170, hf⟩ := x_bind hf
        refine x_iastore C dX12_laysStep_170 171 rfl hσ170 ?_
        obtain ⟨v171, ev171, hf⟩ := xlet_some hf
        refine x_iinc C dX12_laysStep_171 174 rfl 7 rfl v171 ev171 rfl [(8, .int (v171)), (5, .int (v144)), (6, .long (v142)), (10, .int (v111)), (9, .int (v80)), (0, .ref (x0)), (2, .int (x2)), (3, .int (x3))] rfl ?_
        refine x_goto C dX12_laysStep_174 61 (by decide) ?_
        refine x_lv [5, 6, 7, 1, 2, 0] (lv' := [(0, .ref (x0)), (2, .int (x2)), (3, .int (x3)), (5, .int (v144)), (6, .long (v142)), (8, .int (v171))]) rfl ?_
        exact hK _ (Option.some.inj hf).symm
      · have hf := (if_pos hc).symm.trans hf
        refine x_goto C dX12_laysStep_132 171 (by decide) ?_
        obtain ⟨v171, ev171, hf⟩ := xlet_some hf
        refine x_iinc C dX12_laysStep_171 174 rfl 7 rfl v171 ev171 rfl [(8, .int (v171)), (10, .int (v111)), (9, .int (v80)), (0, .ref (x0)), (2, .int (x2)), (3, .int (x3)), (5, .int (a.1)), (6, .long (a.2.1))] rfl ?_
        refine x_goto C dX12_laysStep_174 61 (by decide) ?_
        refine x_lv [3, 4, 5, 6, 7, 0] (lv' := [(0, .ref (x0)), (2, .int (x2)), (3, .int (x3)), (5, .int (a.1)), (6, .long (a.2.1)), (8, .int (v171))]) rfl ?_
        exact hK _ (Option.some.inj hf).symm
noncomputable def fLX12_laysStep_198 (x0 : Nat) (x2 : Int32) (x3 : Int32) (a : Int32 × St) : Option ((Int32 × St) ⊕ (St)) :=
(gR a.2 x0 11 48).bind fun v201 =>
(aI a.2 v201 0 x2).bind fun v205 =>
if v205 ≤ a.1 then
(some (Sum.inr a.2))
else
((isO a.2 x0 11).bind fun _ =>
(fX12_draws a.2 x0 x2).bind fun w211 =>
xlet (a.1 + 1) fun v215 =>
some (Sum.inl (v215, w211.2)))
set_option maxHeartbeats 4000000 in
set_option maxRecDepth 100000 in
theorem lpX12_laysStep_198 {X : xX} {x0 : Nat} {x2 : Int32} {x3 : Int32}  {a0 : Int32 × St} {b : St} (C : Ok X cX12_laysStep 11 RX12 rmX12_laysStep none) (hb : iterP (fLX12_laysStep_198 x0 x2 x3) a0 = some b) (hy0 : ∀ s, b = s → V X (0, 0) s 221 [(0, .ref (x0)), (2, .int (x2)), (3, .int (x3))] []) : V X (0, 0) a0.2 198 [(0, .ref (x0)), (2, .int (x2)), (3, .int (x3)), (8, .int (a0.1))] [] := by
  obtain ⟨n, hn⟩ := iterP_some hb
  refine x_loop (P := fun a => V X (0, 0) a.2 198 [(0, .ref (x0)), (2, .int (x2)), (3, .int (x3)), (8, .int (a.1))] []) ?_ n a0 hn
  intro a c hf hK hxx
  have hx0 : ∀ s, c = Sum.inr s → V X (0, 0) s 221 [(0, .ref (x0)), (2, .int (x2)), (3, .int (x3))] [] := fun s e => hy0 s (hxx _ e).symm
  unfold fLX12_laysStep_198 at hf
  refine x_iload C dX12_laysStep_198 200 rfl 3 rfl ?_
  refine x_aload_n C dX12_laysStep_200 201 rfl 0 rfl rfl ?_
  obtain ⟨v201, hv201, hf⟩ := x_bind hf
  refine x_getR C dX12_laysStep_201 204 rfl hv201 cl11 rfl w1491 ?_
  refine x_iload_n C dX12_laysStep_204 205 rfl 1 rfl rfl ?_
  obtain ⟨v205, hv205, hf⟩ := x_bind hf
  refine x_iaload C dX12_laysStep_205 206 rfl hv205 ?_
  refine x_icmp_ge C dX12_laysStep_206 221 (by decide) 209 rfl (fun hc => ?_) (fun hc => ?_)
  · have hf := (if_pos hc).symm.trans hf
    refine x_lv [0, 1, 2] (lv' := [(0, .ref (x0)), (2, .int (x2)), (3, .int (x3))]) rfl ?_
    exact hx0 _ (Option.some.inj hf).symm
  · have hf := (if_neg hc).symm.trans hf
    refine x_aload_n C dX12_laysStep_209 210 rfl 0 rfl rfl ?_
    refine x_iload_n C dX12_laysStep_210 211 rfl 1 rfl rfl ?_
    obtain ⟨o211, ho211, hf⟩ := x_bind hf
    obtain ⟨w211, hw211, hf⟩ := x_bind hf
    refine x_callVi C dX12_laysStep_211 214 rfl ho211 cl11.1 rfl (cX12_drawsc hw211) kX12_draws kvX12_draws w1992 ⟨rfl, rfl⟩ ⟨Nat.le_of_ble_eq_true rfl, Nat.le_of_ble_eq_true rfl⟩ ⟨Nat.zero_le _, Nat.zero_le _⟩ rfl rfl (Nat.le_of_ble_eq_true rfl) ?_
    refine x_pop C dX12_laysStep_214 215 rfl rfl ?_
    obtain ⟨v215, ev215, hf⟩ := xlet_some hf
    refine x_iinc C dX12_laysStep_215 218 rfl 3 rfl v215 ev215 rfl [(8, .int (v215)), (0, .ref (x0)), (2, .int (x2)), (3, .int (x3))] rfl ?_
    refine x_goto C dX12_laysStep_218 198 (by decide) ?_
    refine x_lv [1, 2, 3, 0] (lv' := [(0, .ref (x0)), (2, .int (x2)), (3, .int (x3)), (8, .int (v215))]) rfl ?_
    exact hK _ (Option.some.inj hf).symm
noncomputable def fX12_laysStep (σ : St) (x0 : Nat) (x1 : Int32) (x2 : Int32) : Option (St) :=
(isO σ x0 11).bind fun _ =>
(fX12_whereOf σ x0 x1 x2).bind fun w3 =>
(isO σ x0 11).bind fun _ =>
(fX12_ruleOf σ x0 x1 x2).bind fun w10 =>
(gR σ x0 11 46).bind fun v16 =>
(isO σ x0 11).bind fun _ =>
(fX12_leftOf σ x0 w10).bind fun w23 =>
(fX12_length w23).bind fun w26 =>
(sI σ v16 x2 w26).bind fun σ29 =>
(gR σ29 x0 11 48).bind fun v31 =>
(isO σ29 x0 11).bind fun _ =>
(fX12_rightOf σ29 x0 w10).bind fun w38 =>
(fX12_length w38).bind fun w41 =>
(sI σ29 v31 x2 w41).bind fun σ44 =>
(gR σ44 x0 11 49).bind fun v52 =>
(sI σ44 v52 x2 1).bind fun σ57 =>
(iterP (fLX12_laysStep_61 x0 x2 w3) (0, 0, 0, σ57)).bind fun b61 =>
(gR b61.2 x0 11 50).bind fun v178 =>
(sI b61.2 v178 x2 b61.1).bind fun σ184 =>
(gR σ184 x0 11 47).bind fun v186 =>
(gI σ184 x0 11 44).bind fun v191 =>
(sI σ184 v186 x2 v191).bind fun σ194 =>
(iterP (fLX12_laysStep_198 x0 x2 w3) (0, σ194)).bind fun b198 =>
(isO b198 x0 11).bind fun _ =>
(fX12_replaces b198 x0 w3 x2).bind fun w224 =>
some w224
set_option maxHeartbeats 4000000 in
set_option maxRecDepth 100000 in
theorem cX12_laysStepc {l : Launch} {G : xG} {A : Nat → Prop} {σ : St} {x0 : Nat} {x1 : Int32} {x2 : Int32} {c : St} (hf : fX12_laysStep σ x0 x1 x2 = some c) : Con l yX12_laysStep (xws yX12_laysStep cX12_laysStep 11 none) rmX12_laysStep [.ref (x0), .int (x1), .int (x2)] G A σ none c := by
  refine x_start rfl (Nat.le_of_ble_eq_true rfl) (fun X _ _ _ C hE0 => ?_)
  have hE : ∀ r, c = r → xE1 X none r := fun r e => e ▸ hE0
  show V X (0, 0) σ 0 [(0, .ref (x0)), (1, .int (x1)), (2, .int (x2))] []
  unfold fX12_laysStep at hf
  refine x_aload_n C dX12_laysStep_0 1 rfl 0 rfl rfl ?_
  refine x_iload_n C dX12_laysStep_1 2 rfl 1 rfl rfl ?_
  refine x_iload_n C dX12_laysStep_2 3 rfl 2 rfl rfl ?_
  obtain ⟨o3, ho3, hf⟩ := x_bind hf
  obtain ⟨w3, hw3, hf⟩ := x_bind hf
  refine x_callVi C dX12_laysStep_3 6 rfl ho3 cl11.1 rfl (cX12_whereOfc hw3) kX12_whereOf kvX12_whereOf w2000 ⟨rfl, rfl⟩ ⟨Nat.le_of_ble_eq_true rfl, Nat.le_of_ble_eq_true rfl⟩ ⟨Nat.zero_le _, Nat.zero_le _⟩ rfl rfl (Nat.le_of_ble_eq_true rfl) ?_
  refine x_istore_n C dX12_laysStep_6 7 rfl rfl rfl [(3, .int (w3)), (0, .ref (x0)), (1, .int (x1)), (2, .int (x2))] rfl ?_
  refine x_aload_n C dX12_laysStep_7 8 rfl 1 rfl rfl ?_
  refine x_iload_n C dX12_laysStep_8 9 rfl 2 rfl rfl ?_
  refine x_iload_n C dX12_laysStep_9 10 rfl 3 rfl rfl ?_
  obtain ⟨o10, ho10, hf⟩ := x_bind hf
  obtain ⟨w10, hw10, hf⟩ := x_bind hf
  refine x_callVi C dX12_laysStep_10 13 rfl ho10 cl11.1 rfl (cX12_ruleOfc hw10) kX12_ruleOf kvX12_ruleOf w2005 ⟨rfl, rfl⟩ ⟨Nat.le_of_ble_eq_true rfl, Nat.le_of_ble_eq_true rfl⟩ ⟨Nat.zero_le _, Nat.zero_le _⟩ rfl rfl (Nat.le_of_ble_eq_true rfl) ?_
  refine x_istore C dX12_laysStep_13 15 rfl rfl [(4, .int (w10)), (3, .int (w3)), (0, .ref (x0)), (1, .int (x1)), (2, .int (x2))] rfl ?_
  refine x_aload_n C dX12_laysStep_15 16 rfl 2 rfl rfl ?_
  obtain ⟨v16, hv16, hf⟩ := x_bind hf
  refine x_getR C dX12_laysStep_16 19 rfl hv16 cl11 rfl w1489 ?_
  refine x_iload_n C dX12_laysStep_19 20 rfl 4 rfl rfl ?_
  refine x_aload_n C dX12_laysStep_20 21 rfl 2 rfl rfl ?_
  refine x_iload C dX12_laysStep_21 23 rfl 0 rfl ?_
  obtain ⟨o23, ho23, hf⟩ := x_bind hf
  obtain ⟨w23, hw23, hf⟩ := x_bind hf
  refine x_callVl C dX12_laysStep_23 26 rfl ho23 cl11.1 rfl (cX12_leftOfc hw23) kX12_leftOf kvX12_leftOf w1752 ⟨rfl, rfl⟩ ⟨Nat.le_of_ble_eq_true rfl, Nat.le_of_ble_eq_true rfl⟩ ⟨Nat.zero_le _, Nat.zero_le _⟩ rfl rfl (Nat.le_of_ble_eq_true rfl) ?_
  obtain ⟨w26, hw26, hf⟩ := x_bind hf
  refine x_callSi C dX12_laysStep_26 29 rfl (cX12_lengthc hw26) kX12_length ksX12_length w1728 ⟨rfl, rfl⟩ ⟨Nat.le_of_ble_eq_true rfl, Nat.le_of_ble_eq_true rfl⟩ ⟨Nat.zero_le _, Nat.zero_le _⟩ rfl rfl (Nat.le_of_ble_eq_true rfl) ?_
  obtain ⟨σ29, hσ29, hf⟩ := x_bind hf
  refine x_iastore C dX12_laysStep_29 30 rfl hσ29 ?_
  refine x_aload_n C dX12_laysStep_30 31 rfl 2 rfl rfl ?_
  obtain ⟨v31, hv31, hf⟩ := x_bind hf
  refine x_getR C dX12_laysStep_31 34 rfl hv31 cl11 rfl w1491 ?_
  refine x_iload_n C dX12_laysStep_34 35 rfl 4 rfl rfl ?_
  refine x_aload_n C dX12_laysStep_35 36 rfl 2 rfl rfl ?_
  refine x_iload C dX12_laysStep_36 38 rfl 0 rfl ?_
  obtain ⟨o38, ho38, hf⟩ := x_bind hf
  obtain ⟨w38, hw38, hf⟩ := x_bind hf
  refine x_callVl C dX12_laysStep_38 41 rfl ho38 cl11.1 rfl (cX12_rightOfc hw38) kX12_rightOf kvX12_rightOf w1756 ⟨rfl, rfl⟩ ⟨Nat.le_of_ble_eq_true rfl, Nat.le_of_ble_eq_true rfl⟩ ⟨Nat.zero_le _, Nat.zero_le _⟩ rfl rfl (Nat.le_of_ble_eq_true rfl) ?_
  obtain ⟨w41, hw41, hf⟩ := x_bind hf
  refine x_callSi C dX12_laysStep_41 44 rfl (cX12_lengthc hw41) kX12_length ksX12_length w1728 ⟨rfl, rfl⟩ ⟨Nat.le_of_ble_eq_true rfl, Nat.le_of_ble_eq_true rfl⟩ ⟨Nat.zero_le _, Nat.zero_le _⟩ rfl rfl (Nat.le_of_ble_eq_true rfl) ?_
  obtain ⟨σ44, hσ44, hf⟩ := x_bind hf
  refine x_iastore C dX12_laysStep_44 45 rfl hσ44 ?_
  refine x_iconst C dX12_laysStep_45 46 rfl 0 (by decide) ?_
  refine x_istore C dX12_laysStep_46 48 rfl rfl [(5, .int (0)), (4, .int (w10)), (3, .int (w3)), (0, .ref (x0)), (1, .int (x1)), (2, .int (x2))] rfl ?_
  refine x_lconst C dX12_laysStep_48 49 rfl 0 (by decide) ?_
  refine x_lstore C dX12_laysStep_49 51 rfl rfl [(6, .long (0)), (5, .int (0)), (4, .int (w10)), (3, .int (w3)), (0, .ref (x0)), (1, .int (x1)), (2, .int (x2))] rfl ?_
  refine x_aload_n C dX12_laysStep_51 52 rfl 4 rfl rfl ?_
  obtain ⟨v52, hv52, hf⟩ := x_bind hf
  refine x_getR C dX12_laysStep_52 55 rfl hv52 cl11 rfl w1492 ?_
  refine x_iload_n C dX12_laysStep_55 56 rfl 6 rfl rfl ?_
  refine x_iconst C dX12_laysStep_56 57 rfl 1 (by decide) ?_
  obtain ⟨σ57, hσ57, hf⟩ := x_bind hf
  refine x_iastore C dX12_laysStep_57 58 rfl hσ57 ?_
  refine x_iconst C dX12_laysStep_58 59 rfl 0 (by decide) ?_
  refine x_istore C dX12_laysStep_59 61 rfl rfl [(8, .int (0)), (6, .long (0)), (5, .int (0)), (4, .int (w10)), (3, .int (w3)), (0, .ref (x0)), (1, .int (x1)), (2, .int (x2))] rfl ?_
  obtain ⟨b61, hb61, hf⟩ := x_bind hf
  refine x_lv [5, 7, 4, 2, 1, 0] (lv' := [(0, .ref (x0)), (2, .int (x2)), (3, .int (w3)), (5, .int (0)), (6, .long (0)), (8, .int (0))]) rfl ?_
  refine lpX12_laysStep_61 C hb61 (fun s61 e61 => ?_)
  subst e61
  refine x_aload_n C dX12_laysStep_177 178 rfl 0 rfl rfl ?_
  obtain ⟨v178, hv178, hf⟩ := x_bind hf
  refine x_getR C dX12_laysStep_178 181 rfl hv178 cl11 rfl w1493 ?_
  refine x_iload_n C dX12_laysStep_181 182 rfl 1 rfl rfl ?_
  refine x_iload C dX12_laysStep_182 184 rfl 3 rfl ?_
  obtain ⟨σ184, hσ184, hf⟩ := x_bind hf
  refine x_iastore C dX12_laysStep_184 185 rfl hσ184 ?_
  refine x_aload_n C dX12_laysStep_185 186 rfl 0 rfl rfl ?_
  obtain ⟨v186, hv186, hf⟩ := x_bind hf
  refine x_getR C dX12_laysStep_186 189 rfl hv186 cl11 rfl w1490 ?_
  refine x_iload_n C dX12_laysStep_189 190 rfl 1 rfl rfl ?_
  refine x_aload_n C dX12_laysStep_190 191 rfl 0 rfl rfl ?_
  obtain ⟨v191, hv191, hf⟩ := x_bind hf
  refine x_getI C dX12_laysStep_191 194 rfl hv191 cl11 rfl w1487 ?_
  obtain ⟨σ194, hσ194, hf⟩ := x_bind hf
  refine x_iastore C dX12_laysStep_194 195 rfl hσ194 ?_
  refine x_iconst C dX12_laysStep_195 196 rfl 0 (by decide) ?_
  refine x_istore C dX12_laysStep_196 198 rfl rfl [(8, .int (0)), (0, .ref (x0)), (2, .int (x2)), (3, .int (w3)), (5, .int (b61.1))] rfl ?_
  obtain ⟨b198, hb198, hf⟩ := x_bind hf
  refine x_lv [1, 2, 3, 0] (lv' := [(0, .ref (x0)), (2, .int (x2)), (3, .int (w3)), (8, .int (0))]) rfl ?_
  refine lpX12_laysStep_198 C hb198 (fun s198 e198 => ?_)
  subst e198
  refine x_aload_n C dX12_laysStep_221 222 rfl 0 rfl rfl ?_
  refine x_iload_n C dX12_laysStep_222 223 rfl 2 rfl rfl ?_
  refine x_iload_n C dX12_laysStep_223 224 rfl 1 rfl rfl ?_
  obtain ⟨o224, ho224, hf⟩ := x_bind hf
  obtain ⟨w224, hw224, hf⟩ := x_bind hf
  refine x_callVv C dX12_laysStep_224 227 rfl ho224 cl11.1 rfl (cX12_replacesc hw224) kX12_replaces kvX12_replaces w2010 ⟨rfl, rfl⟩ ⟨Nat.le_of_ble_eq_true rfl, Nat.le_of_ble_eq_true rfl⟩ ⟨Nat.zero_le _, Nat.zero_le _⟩ rfl rfl (Nat.le_of_ble_eq_true rfl) ?_
  exact x_vret C (hE _ (Option.some.inj hf).symm) dX12_laysStep_227
theorem dX12_stepsOf_0 : decode cX12_stepsOf 0 = .ok (.aload_n 0, 1) := by decide +kernel
theorem dX12_stepsOf_1 : decode cX12_stepsOf 1 = .ok (.getfield 13, 3) := by decide +kernel
theorem dX12_stepsOf_4 : decode cX12_stepsOf 4 = .ok (.iload_n 1, 1) := by decide +kernel
theorem dX12_stepsOf_5 : decode cX12_stepsOf 5 = .ok (.iconst 2, 1) := by decide +kernel
theorem dX12_stepsOf_6 : decode cX12_stepsOf 6 = .ok (.invokestatic 124, 3) := by decide +kernel
theorem dX12_stepsOf_9 : decode cX12_stepsOf 9 = .ok (.laload, 1) := by decide +kernel
theorem dX12_stepsOf_10 : decode cX12_stepsOf 10 = .ok (.l2i, 1) := by decide +kernel
theorem dX12_stepsOf_11 : decode cX12_stepsOf 11 = .ok (.ireturn, 1) := by decide +kernel
abbrev rmX12_stepsOf : Room := { frames := 1, cells := 0, slots := 0, locals := 21 }
noncomputable def fX12_stepsOf (σ : St) (x0 : Nat) (x1 : Int32) : Option (Int32) :=
(gR σ x0 11 1).bind fun v1 =>
(fX12_place x1 2).bind fun w6 =>
(aL σ v1 w6).bind fun v9 =>
some v9.toInt32
set_option maxHeartbeats 4000000 in
set_option maxRecDepth 100000 in
theorem cX12_stepsOfc {l : Launch} {G : xG} {A : Nat → Prop} {σ : St} {x0 : Nat} {x1 : Int32} {c : Int32} (hf : fX12_stepsOf σ x0 x1 = some c) : Con l yX12_stepsOf (xws yX12_stepsOf cX12_stepsOf 2 (some .int)) rmX12_stepsOf [.ref (x0), .int (x1)] G A σ (some (.int c)) σ := by
  refine x_start rfl (Nat.le_of_ble_eq_true rfl) (fun X _ _ _ C hE0 => ?_)
  have hE : ∀ r, c = r → xE1 X (some (.int r)) σ := fun r e => e ▸ hE0
  show V X (0, 0) σ 0 [(0, .ref (x0)), (1, .int (x1))] []
  unfold fX12_stepsOf at hf
  refine x_aload_n C dX12_stepsOf_0 1 rfl 0 rfl rfl ?_
  obtain ⟨v1, hv1, hf⟩ := x_bind hf
  refine x_getR C dX12_stepsOf_1 4 rfl hv1 cl11 rfl w1444 ?_
  refine x_iload_n C dX12_stepsOf_4 5 rfl 1 rfl rfl ?_
  refine x_iconst C dX12_stepsOf_5 6 rfl 2 (by decide) ?_
  obtain ⟨w6, hw6, hf⟩ := x_bind hf
  refine x_callSi C dX12_stepsOf_6 9 rfl (cX12_placec hw6) kX12_place ksX12_place w1849 ⟨rfl, rfl⟩ ⟨Nat.le_of_ble_eq_true rfl, Nat.le_of_ble_eq_true rfl⟩ ⟨Nat.zero_le _, Nat.zero_le _⟩ rfl rfl (Nat.le_of_ble_eq_true rfl) ?_
  obtain ⟨v9, hv9, hf⟩ := x_bind hf
  refine x_laload C dX12_stepsOf_9 10 rfl hv9 ?_
  refine x_l2i C dX12_stepsOf_10 11 rfl ?_
  exact x_iret C (hE _ (Option.some.inj hf).symm) dX12_stepsOf_11
theorem dX12_laysDrawing_0 : decode cX12_laysDrawing 0 = .ok (.aload_n 0, 1) := by decide +kernel
theorem dX12_laysDrawing_1 : decode cX12_laysDrawing 1 = .ok (.iload_n 1, 1) := by decide +kernel
theorem dX12_laysDrawing_2 : decode cX12_laysDrawing 2 = .ok (.invokevirtual 471, 3) := by decide +kernel
theorem dX12_laysDrawing_5 : decode cX12_laysDrawing 5 = .ok (.istore_n 2, 1) := by decide +kernel
theorem dX12_laysDrawing_6 : decode cX12_laysDrawing 6 = .ok (.aload_n 0, 1) := by decide +kernel
theorem dX12_laysDrawing_7 : decode cX12_laysDrawing 7 = .ok (.iload_n 1, 1) := by decide +kernel
theorem dX12_laysDrawing_8 : decode cX12_laysDrawing 8 = .ok (.invokevirtual 542, 3) := by decide +kernel
theorem dX12_laysDrawing_11 : decode cX12_laysDrawing 11 = .ok (.iconst 0, 1) := by decide +kernel
theorem dX12_laysDrawing_12 : decode cX12_laysDrawing 12 = .ok (.istore_n 3, 1) := by decide +kernel
theorem dX12_laysDrawing_13 : decode cX12_laysDrawing 13 = .ok (.iload_n 3, 1) := by decide +kernel
theorem dX12_laysDrawing_14 : decode cX12_laysDrawing 14 = .ok (.iload_n 2, 1) := by decide +kernel
theorem dX12_laysDrawing_15 : decode cX12_laysDrawing 15 = .ok (.if_icmp .ge 15, 3) := by decide +kernel
theorem dX12_laysDrawing_18 : decode cX12_laysDrawing 18 = .ok (.aload_n 0, 1) := by decide +kernel
theorem dX12_laysDrawing_19 : decode cX12_laysDrawing 19 = .ok (.iload_n 1, 1) := by decide +kernel
theorem dX12_laysDrawing_20 : decode cX12_laysDrawing 20 = .ok (.iload_n 3, 1) := by decide +kernel
theorem dX12_laysDrawing_21 : decode cX12_laysDrawing 21 = .ok (.invokevirtual 545, 3) := by decide +kernel
theorem dX12_laysDrawing_24 : decode cX12_laysDrawing 24 = .ok (.iinc 3 1, 3) := by decide +kernel
theorem dX12_laysDrawing_27 : decode cX12_laysDrawing 27 = .ok (.goto (-14), 3) := by decide +kernel
theorem dX12_laysDrawing_30 : decode cX12_laysDrawing 30 = .ok (.aload_n 0, 1) := by decide +kernel
theorem dX12_laysDrawing_31 : decode cX12_laysDrawing 31 = .ok (.aload_n 0, 1) := by decide +kernel
theorem dX12_laysDrawing_32 : decode cX12_laysDrawing 32 = .ok (.getfield 13, 3) := by decide +kernel
theorem dX12_laysDrawing_35 : decode cX12_laysDrawing 35 = .ok (.iload_n 1, 1) := by decide +kernel
theorem dX12_laysDrawing_36 : decode cX12_laysDrawing 36 = .ok (.iconst 1, 1) := by decide +kernel
theorem dX12_laysDrawing_37 : decode cX12_laysDrawing 37 = .ok (.invokestatic 124, 3) := by decide +kernel
theorem dX12_laysDrawing_40 : decode cX12_laysDrawing 40 = .ok (.laload, 1) := by decide +kernel
theorem dX12_laysDrawing_41 : decode cX12_laysDrawing 41 = .ok (.invokestatic 136, 3) := by decide +kernel
theorem dX12_laysDrawing_44 : decode cX12_laysDrawing 44 = .ok (.putfield 520, 3) := by decide +kernel
theorem dX12_laysDrawing_47 : decode cX12_laysDrawing 47 = .ok (.iconst 0, 1) := by decide +kernel
theorem dX12_laysDrawing_48 : decode cX12_laysDrawing 48 = .ok (.istore_n 3, 1) := by decide +kernel
theorem dX12_laysDrawing_49 : decode cX12_laysDrawing 49 = .ok (.iload_n 3, 1) := by decide +kernel
theorem dX12_laysDrawing_50 : decode cX12_laysDrawing 50 = .ok (.aload_n 0, 1) := by decide +kernel
theorem dX12_laysDrawing_51 : decode cX12_laysDrawing 51 = .ok (.getfield 520, 3) := by decide +kernel
theorem dX12_laysDrawing_54 : decode cX12_laysDrawing 54 = .ok (.if_icmp .ge 16, 3) := by decide +kernel
theorem dX12_laysDrawing_57 : decode cX12_laysDrawing 57 = .ok (.aload_n 0, 1) := by decide +kernel
theorem dX12_laysDrawing_58 : decode cX12_laysDrawing 58 = .ok (.getfield 100, 3) := by decide +kernel
theorem dX12_laysDrawing_61 : decode cX12_laysDrawing 61 = .ok (.iload_n 3, 1) := by decide +kernel
theorem dX12_laysDrawing_62 : decode cX12_laysDrawing 62 = .ok (.iload_n 3, 1) := by decide +kernel
theorem dX12_laysDrawing_63 : decode cX12_laysDrawing 63 = .ok (.iastore, 1) := by decide +kernel
theorem dX12_laysDrawing_64 : decode cX12_laysDrawing 64 = .ok (.iinc 3 1, 3) := by decide +kernel
theorem dX12_laysDrawing_67 : decode cX12_laysDrawing 67 = .ok (.goto (-18), 3) := by decide +kernel
theorem dX12_laysDrawing_70 : decode cX12_laysDrawing 70 = .ok (.aload_n 0, 1) := by decide +kernel
theorem dX12_laysDrawing_71 : decode cX12_laysDrawing 71 = .ok (.iload_n 2, 1) := by decide +kernel
theorem dX12_laysDrawing_72 : decode cX12_laysDrawing 72 = .ok (.invokevirtual 548, 3) := by decide +kernel
theorem dX12_laysDrawing_75 : decode cX12_laysDrawing 75 = .ok (.return_, 1) := by decide +kernel
abbrev rmX12_laysDrawing : Room := { frames := 3, cells := 0, slots := 0, locals := 90 }
noncomputable def fLX12_laysDrawing_13 (x0 : Nat) (x1 : Int32) (x2 : Int32) (a : Int32 × St) : Option ((Int32 × St) ⊕ (St)) :=
if x2 ≤ a.1 then
(some (Sum.inr a.2))
else
((isO a.2 x0 11).bind fun _ =>
(fX12_laysStep a.2 x0 x1 a.1).bind fun w21 =>
xlet (a.1 + 1) fun v24 =>
some (Sum.inl (v24, w21)))
set_option maxHeartbeats 4000000 in
set_option maxRecDepth 100000 in
theorem lpX12_laysDrawing_13 {X : xX} {x0 : Nat} {x1 : Int32} {x2 : Int32}  {a0 : Int32 × St} {b : St} (C : Ok X cX12_laysDrawing 4 RX12 rmX12_laysDrawing none) (hb : iterP (fLX12_laysDrawing_13 x0 x1 x2) a0 = some b) (hy0 : ∀ s, b = s → V X (0, 0) s 30 [(0, .ref (x0)), (1, .int (x1)), (2, .int (x2))] []) : V X (0, 0) a0.2 13 [(0, .ref (x0)), (1, .int (x1)), (2, .int (x2)), (3, .int (a0.1))] [] := by
  obtain ⟨n, hn⟩ := iterP_some hb
  refine x_loop (P := fun a => V X (0, 0) a.2 13 [(0, .ref (x0)), (1, .int (x1)), (2, .int (x2)), (3, .int (a.1))] []) ?_ n a0 hn
  intro a c hf hK hxx
  have hx0 : ∀ s, c = Sum.inr s → V X (0, 0) s 30 [(0, .ref (x0)), (1, .int (x1)), (2, .int (x2))] [] := fun s e => hy0 s (hxx _ e).symm
  unfold fLX12_laysDrawing_13 at hf
  refine x_iload_n C dX12_laysDrawing_13 14 rfl 3 rfl rfl ?_
  refine x_iload_n C dX12_laysDrawing_14 15 rfl 2 rfl rfl ?_
  refine x_icmp_ge C dX12_laysDrawing_15 30 (by decide) 18 rfl (fun hc => ?_) (fun hc => ?_)
  · have hf := (if_pos hc).symm.trans hf
    refine x_lv [0, 1, 2] (lv' := [(0, .ref (x0)), (1, .int (x1)), (2, .int (x2))]) rfl ?_
    exact hx0 _ (Option.some.inj hf).symm
  · have hf := (if_neg hc).symm.trans hf
    refine x_aload_n C dX12_laysDrawing_18 19 rfl 0 rfl rfl ?_
    refine x_iload_n C dX12_laysDrawing_19 20 rfl 1 rfl rfl ?_
    refine x_iload_n C dX12_laysDrawing_20 21 rfl 3 rfl rfl ?_
    obtain ⟨o21, ho21, hf⟩ := x_bind hf
    obtain ⟨w21, hw21, hf⟩ := x_bind hf
    refine x_callVv C dX12_laysDrawing_21 24 rfl ho21 cl11.1 rfl (cX12_laysStepc hw21) kX12_laysStep kvX12_laysStep w1996 ⟨rfl, rfl⟩ ⟨Nat.le_of_ble_eq_true rfl, Nat.le_of_ble_eq_true rfl⟩ ⟨Nat.zero_le _, Nat.zero_le _⟩ rfl rfl (Nat.le_of_ble_eq_true rfl) ?_
    obtain ⟨v24, ev24, hf⟩ := xlet_some hf
    refine x_iinc C dX12_laysDrawing_24 27 rfl 3 rfl v24 ev24 rfl [(3, .int (v24)), (0, .ref (x0)), (1, .int (x1)), (2, .int (x2))] rfl ?_
    refine x_goto C dX12_laysDrawing_27 13 (by decide) ?_
    refine x_lv [1, 2, 3, 0] (lv' := [(0, .ref (x0)), (1, .int (x1)), (2, .int (x2)), (3, .int (v24))]) rfl ?_
    exact hK _ (Option.some.inj hf).symm
noncomputable def fLX12_laysDrawing_49 (x0 : Nat) (x2 : Int32) (a : Int32 × St) : Option ((Int32 × St) ⊕ (St)) :=
(gI a.2 x0 11 55).bind fun v51 =>
if v51 ≤ a.1 then
(some (Sum.inr a.2))
else
((gR a.2 x0 11 54).bind fun v58 =>
(sI a.2 v58 a.1 a.1).bind fun σ63 =>
xlet (a.1 + 1) fun v64 =>
some (Sum.inl (v64, σ63)))
set_option maxHeartbeats 4000000 in
set_option maxRecDepth 100000 in
theorem lpX12_laysDrawing_49 {X : xX} {x0 : Nat} {x2 : Int32}  {a0 : Int32 × St} {b : St} (C : Ok X cX12_laysDrawing 4 RX12 rmX12_laysDrawing none) (hb : iterP (fLX12_laysDrawing_49 x0 x2) a0 = some b) (hy0 : ∀ s, b = s → V X (0, 0) s 70 [(0, .ref (x0)), (2, .int (x2))] []) : V X (0, 0) a0.2 49 [(0, .ref (x0)), (2, .int (x2)), (3, .int (a0.1))] [] := by
  obtain ⟨n, hn⟩ := iterP_some hb
  refine x_loop (P := fun a => V X (0, 0) a.2 49 [(0, .ref (x0)), (2, .int (x2)), (3, .int (a.1))] []) ?_ n a0 hn
  intro a c hf hK hxx
  have hx0 : ∀ s, c = Sum.inr s → V X (0, 0) s 70 [(0, .ref (x0)), (2, .int (x2))] [] := fun s e => hy0 s (hxx _ e).symm
  unfold fLX12_laysDrawing_49 at hf
  refine x_iload_n C dX12_laysDrawing_49 50 rfl 2 rfl rfl ?_
  refine x_aload_n C dX12_laysDrawing_50 51 rfl 0 rfl rfl ?_
  obtain ⟨v51, hv51, hf⟩ := x_bind hf
  refine x_getI C dX12_laysDrawing_51 54 rfl hv51 cl11 rfl w1498 ?_
  refine x_icmp_ge C dX12_laysDrawing_54 70 (by decide) 57 rfl (fun hc => ?_) (fun hc => ?_)
  · have hf := (if_pos hc).symm.trans hf
    refine x_lv [0, 1] (lv' := [(0, .ref (x0)), (2, .int (x2))]) rfl ?_
    exact hx0 _ (Option.some.inj hf).symm
  · have hf := (if_neg hc).symm.trans hf
    refine x_aload_n C dX12_laysDrawing_57 58 rfl 0 rfl rfl ?_
    obtain ⟨v58, hv58, hf⟩ := x_bind hf
    refine x_getR C dX12_laysDrawing_58 61 rfl hv58 cl11 rfl w1497 ?_
    refine x_iload_n C dX12_laysDrawing_61 62 rfl 2 rfl rfl ?_
    refine x_iload_n C dX12_laysDrawing_62 63 rfl 2 rfl rfl ?_
    obtain ⟨σ63, hσ63, hf⟩ := x_bind hf
    refine x_iastore C dX12_laysDrawing_63 64 rfl hσ63 ?_
    obtain ⟨v64, ev64, hf⟩ := xlet_some hf
    refine x_iinc C dX12_laysDrawing_64 67 rfl 2 rfl v64 ev64 rfl [(3, .int (v64)), (0, .ref (x0)), (2, .int (x2))] rfl ?_
    refine x_goto C dX12_laysDrawing_67 49 (by decide) ?_
    refine x_lv [1, 2, 0] (lv' := [(0, .ref (x0)), (2, .int (x2)), (3, .int (v64))]) rfl ?_
    exact hK _ (Option.some.inj hf).symm
noncomputable def fX12_laysDrawing (σ : St) (x0 : Nat) (x1 : Int32) : Option (St) :=
(isO σ x0 11).bind fun _ =>
(fX12_stepsOf σ x0 x1).bind fun w2 =>
(isO σ x0 11).bind fun _ =>
(fX12_begins σ x0 x1).bind fun w8 =>
(iterP (fLX12_laysDrawing_13 x0 x1 w2) (0, w8)).bind fun b13 =>
(gR b13 x0 11 1).bind fun v32 =>
(fX12_place x1 1).bind fun w37 =>
(aL b13 v32 w37).bind fun v40 =>
(fX12_length v40).bind fun w41 =>
(wrF b13 x0 11 55 (.int (w41))).bind fun σ44 =>
(iterP (fLX12_laysDrawing_49 x0 w2) (0, σ44)).bind fun b49 =>
(isO b49 x0 11).bind fun _ =>
(fX12_laysCanon b49 x0 w2).bind fun w72 =>
some w72
set_option maxHeartbeats 4000000 in
set_option maxRecDepth 100000 in
theorem cX12_laysDrawingc {l : Launch} {G : xG} {A : Nat → Prop} {σ : St} {x0 : Nat} {x1 : Int32} {c : St} (hf : fX12_laysDrawing σ x0 x1 = some c) : Con l yX12_laysDrawing (xws yX12_laysDrawing cX12_laysDrawing 4 none) rmX12_laysDrawing [.ref (x0), .int (x1)] G A σ none c := by
  refine x_start rfl (Nat.le_of_ble_eq_true rfl) (fun X _ _ _ C hE0 => ?_)
  have hE : ∀ r, c = r → xE1 X none r := fun r e => e ▸ hE0
  show V X (0, 0) σ 0 [(0, .ref (x0)), (1, .int (x1))] []
  unfold fX12_laysDrawing at hf
  refine x_aload_n C dX12_laysDrawing_0 1 rfl 0 rfl rfl ?_
  refine x_iload_n C dX12_laysDrawing_1 2 rfl 1 rfl rfl ?_
  obtain ⟨o2, ho2, hf⟩ := x_bind hf
  obtain ⟨w2, hw2, hf⟩ := x_bind hf
  refine x_callVi C dX12_laysDrawing_2 5 rfl ho2 cl11.1 rfl (cX12_stepsOfc hw2) kX12_stepsOf kvX12_stepsOf w1980 ⟨rfl, rfl⟩ ⟨Nat.le_of_ble_eq_true rfl, Nat.le_of_ble_eq_true rfl⟩ ⟨Nat.zero_le _, Nat.zero_le _⟩ rfl rfl (Nat.le_of_ble_eq_true rfl) ?_
  refine x_istore_n C dX12_laysDrawing_5 6 rfl rfl rfl [(2, .int (w2)), (0, .ref (x0)), (1, .int (x1))] rfl ?_
  refine x_aload_n C dX12_laysDrawing_6 7 rfl 1 rfl rfl ?_
  refine x_iload_n C dX12_laysDrawing_7 8 rfl 2 rfl rfl ?_
  obtain ⟨o8, ho8, hf⟩ := x_bind hf
  obtain ⟨w8, hw8, hf⟩ := x_bind hf
  refine x_callVv C dX12_laysDrawing_8 11 rfl ho8 cl11.1 rfl (cX12_beginsc hw8) kX12_begins kvX12_begins w1988 ⟨rfl, rfl⟩ ⟨Nat.le_of_ble_eq_true rfl, Nat.le_of_ble_eq_true rfl⟩ ⟨Nat.zero_le _, Nat.zero_le _⟩ rfl rfl (Nat.le_of_ble_eq_true rfl) ?_
  refine x_iconst C dX12_laysDrawing_11 12 rfl 0 (by decide) ?_
  refine x_istore_n C dX12_laysDrawing_12 13 rfl rfl rfl [(3, .int (0)), (2, .int (w2)), (0, .ref (x0)), (1, .int (x1))] rfl ?_
  obtain ⟨b13, hb13, hf⟩ := x_bind hf
  refine x_lv [2, 3, 1, 0] (lv' := [(0, .ref (x0)), (1, .int (x1)), (2, .int (w2)), (3, .int (0))]) rfl ?_
  refine lpX12_laysDrawing_13 C hb13 (fun s13 e13 => ?_)
  subst e13
  refine x_aload_n C dX12_laysDrawing_30 31 rfl 0 rfl rfl ?_
  refine x_aload_n C dX12_laysDrawing_31 32 rfl 0 rfl rfl ?_
  obtain ⟨v32, hv32, hf⟩ := x_bind hf
  refine x_getR C dX12_laysDrawing_32 35 rfl hv32 cl11 rfl w1444 ?_
  refine x_iload_n C dX12_laysDrawing_35 36 rfl 1 rfl rfl ?_
  refine x_iconst C dX12_laysDrawing_36 37 rfl 1 (by decide) ?_
  obtain ⟨w37, hw37, hf⟩ := x_bind hf
  refine x_callSi C dX12_laysDrawing_37 40 rfl (cX12_placec hw37) kX12_place ksX12_place w1849 ⟨rfl, rfl⟩ ⟨Nat.le_of_ble_eq_true rfl, Nat.le_of_ble_eq_true rfl⟩ ⟨Nat.zero_le _, Nat.zero_le _⟩ rfl rfl (Nat.le_of_ble_eq_true rfl) ?_
  obtain ⟨v40, hv40, hf⟩ := x_bind hf
  refine x_laload C dX12_laysDrawing_40 41 rfl hv40 ?_
  obtain ⟨w41, hw41, hf⟩ := x_bind hf
  refine x_callSi C dX12_laysDrawing_41 44 rfl (cX12_lengthc hw41) kX12_length ksX12_length w1728 ⟨rfl, rfl⟩ ⟨Nat.le_of_ble_eq_true rfl, Nat.le_of_ble_eq_true rfl⟩ ⟨Nat.zero_le _, Nat.zero_le _⟩ rfl rfl (Nat.le_of_ble_eq_true rfl) ?_
  obtain ⟨σ44, hσ44, hf⟩ := x_bind hf
  refine x_putX C dX12_laysDrawing_44 47 rfl hσ44 cl11 rfl w1498 rfl rfl rfl ?_
  refine x_iconst C dX12_laysDrawing_47 48 rfl 0 (by decide) ?_
  refine x_istore_n C dX12_laysDrawing_48 49 rfl rfl rfl [(3, .int (0)), (0, .ref (x0)), (1, .int (x1)), (2, .int (w2))] rfl ?_
  obtain ⟨b49, hb49, hf⟩ := x_bind hf
  refine x_lv [1, 3, 0] (lv' := [(0, .ref (x0)), (2, .int (w2)), (3, .int (0))]) rfl ?_
  refine lpX12_laysDrawing_49 C hb49 (fun s49 e49 => ?_)
  subst e49
  refine x_aload_n C dX12_laysDrawing_70 71 rfl 0 rfl rfl ?_
  refine x_iload_n C dX12_laysDrawing_71 72 rfl 1 rfl rfl ?_
  obtain ⟨o72, ho72, hf⟩ := x_bind hf
  obtain ⟨w72, hw72, hf⟩ := x_bind hf
  refine x_callVv C dX12_laysDrawing_72 75 rfl ho72 cl11.1 rfl (cX12_laysCanonc hw72) kX12_laysCanon kvX12_laysCanon w2014 ⟨rfl, rfl⟩ ⟨Nat.le_of_ble_eq_true rfl, Nat.le_of_ble_eq_true rfl⟩ ⟨Nat.zero_le _, Nat.zero_le _⟩ rfl rfl (Nat.le_of_ble_eq_true rfl) ?_
  exact x_vret C (hE _ (Option.some.inj hf).symm) dX12_laysDrawing_75
theorem dX12_areOne_0 : decode cX12_areOne 0 = .ok (.aload_n 0, 1) := by decide +kernel
theorem dX12_areOne_1 : decode cX12_areOne 1 = .ok (.iconst 0, 1) := by decide +kernel
theorem dX12_areOne_2 : decode cX12_areOne 2 = .ok (.putfield 1, 3) := by decide +kernel
theorem dX12_areOne_5 : decode cX12_areOne 5 = .ok (.aload_n 0, 1) := by decide +kernel
theorem dX12_areOne_6 : decode cX12_areOne 6 = .ok (.iload_n 1, 1) := by decide +kernel
theorem dX12_areOne_7 : decode cX12_areOne 7 = .ok (.invokestatic 452, 3) := by decide +kernel
theorem dX12_areOne_10 : decode cX12_areOne 10 = .ok (.ifCond .eq 14, 3) := by decide +kernel
theorem dX12_areOne_13 : decode cX12_areOne 13 = .ok (.iload_n 2, 1) := by decide +kernel
theorem dX12_areOne_14 : decode cX12_areOne 14 = .ok (.invokestatic 452, 3) := by decide +kernel
theorem dX12_areOne_17 : decode cX12_areOne 17 = .ok (.ifCond .eq 7, 3) := by decide +kernel
theorem dX12_areOne_20 : decode cX12_areOne 20 = .ok (.iconst 1, 1) := by decide +kernel
theorem dX12_areOne_21 : decode cX12_areOne 21 = .ok (.goto 4, 3) := by decide +kernel
theorem dX12_areOne_24 : decode cX12_areOne 24 = .ok (.iconst 0, 1) := by decide +kernel
theorem dX12_areOne_25 : decode cX12_areOne 25 = .ok (.iconst 1, 1) := by decide +kernel
theorem dX12_areOne_26 : decode cX12_areOne 26 = .ok (.invokevirtual 265, 3) := by decide +kernel
theorem dX12_areOne_29 : decode cX12_areOne 29 = .ok (.ifCond .ne 5, 3) := by decide +kernel
theorem dX12_areOne_32 : decode cX12_areOne 32 = .ok (.iconst 0, 1) := by decide +kernel
theorem dX12_areOne_33 : decode cX12_areOne 33 = .ok (.ireturn, 1) := by decide +kernel
theorem dX12_areOne_34 : decode cX12_areOne 34 = .ok (.aload_n 0, 1) := by decide +kernel
theorem dX12_areOne_35 : decode cX12_areOne 35 = .ok (.iload_n 1, 1) := by decide +kernel
theorem dX12_areOne_36 : decode cX12_areOne 36 = .ok (.invokevirtual 471, 3) := by decide +kernel
theorem dX12_areOne_39 : decode cX12_areOne 39 = .ok (.istore_n 3, 1) := by decide +kernel
theorem dX12_areOne_40 : decode cX12_areOne 40 = .ok (.aload_n 0, 1) := by decide +kernel
theorem dX12_areOne_41 : decode cX12_areOne 41 = .ok (.getfield 13, 3) := by decide +kernel
theorem dX12_areOne_44 : decode cX12_areOne 44 = .ok (.iload_n 1, 1) := by decide +kernel
theorem dX12_areOne_45 : decode cX12_areOne 45 = .ok (.iconst 1, 1) := by decide +kernel
theorem dX12_areOne_46 : decode cX12_areOne 46 = .ok (.invokestatic 124, 3) := by decide +kernel
theorem dX12_areOne_49 : decode cX12_areOne 49 = .ok (.laload, 1) := by decide +kernel
theorem dX12_areOne_50 : decode cX12_areOne 50 = .ok (.aload_n 0, 1) := by decide +kernel
theorem dX12_areOne_51 : decode cX12_areOne 51 = .ok (.getfield 13, 3) := by decide +kernel
theorem dX12_areOne_54 : decode cX12_areOne 54 = .ok (.iload_n 2, 1) := by decide +kernel
theorem dX12_areOne_55 : decode cX12_areOne 55 = .ok (.iconst 1, 1) := by decide +kernel
theorem dX12_areOne_56 : decode cX12_areOne 56 = .ok (.invokestatic 124, 3) := by decide +kernel
theorem dX12_areOne_59 : decode cX12_areOne 59 = .ok (.laload, 1) := by decide +kernel
theorem dX12_areOne_60 : decode cX12_areOne 60 = .ok (.lcmp, 1) := by decide +kernel
theorem dX12_areOne_61 : decode cX12_areOne 61 = .ok (.ifCond .ne 12, 3) := by decide +kernel
theorem dX12_areOne_64 : decode cX12_areOne 64 = .ok (.iload_n 3, 1) := by decide +kernel
theorem dX12_areOne_65 : decode cX12_areOne 65 = .ok (.aload_n 0, 1) := by decide +kernel
theorem dX12_areOne_66 : decode cX12_areOne 66 = .ok (.iload_n 2, 1) := by decide +kernel
theorem dX12_areOne_67 : decode cX12_areOne 67 = .ok (.invokevirtual 471, 3) := by decide +kernel
theorem dX12_areOne_70 : decode cX12_areOne 70 = .ok (.if_icmp .eq 5, 3) := by decide +kernel
theorem dX12_areOne_73 : decode cX12_areOne 73 = .ok (.iconst 0, 1) := by decide +kernel
theorem dX12_areOne_74 : decode cX12_areOne 74 = .ok (.ireturn, 1) := by decide +kernel
theorem dX12_areOne_75 : decode cX12_areOne 75 = .ok (.aload_n 0, 1) := by decide +kernel
theorem dX12_areOne_76 : decode cX12_areOne 76 = .ok (.iload_n 1, 1) := by decide +kernel
theorem dX12_areOne_77 : decode cX12_areOne 77 = .ok (.invokevirtual 474, 3) := by decide +kernel
theorem dX12_areOne_80 : decode cX12_areOne 80 = .ok (.iconst 0, 1) := by decide +kernel
theorem dX12_areOne_81 : decode cX12_areOne 81 = .ok (.istore 4, 2) := by decide +kernel
theorem dX12_areOne_83 : decode cX12_areOne 83 = .ok (.iload 4, 2) := by decide +kernel
theorem dX12_areOne_85 : decode cX12_areOne 85 = .ok (.iload_n 3, 1) := by decide +kernel
theorem dX12_areOne_86 : decode cX12_areOne 86 = .ok (.if_icmp .ge 42, 3) := by decide +kernel
theorem dX12_areOne_89 : decode cX12_areOne 89 = .ok (.aload_n 0, 1) := by decide +kernel
theorem dX12_areOne_90 : decode cX12_areOne 90 = .ok (.getfield 103, 3) := by decide +kernel
theorem dX12_areOne_93 : decode cX12_areOne 93 = .ok (.iload 4, 2) := by decide +kernel
theorem dX12_areOne_95 : decode cX12_areOne 95 = .ok (.aload_n 0, 1) := by decide +kernel
theorem dX12_areOne_96 : decode cX12_areOne 96 = .ok (.getfield 94, 3) := by decide +kernel
theorem dX12_areOne_99 : decode cX12_areOne 99 = .ok (.iload 4, 2) := by decide +kernel
theorem dX12_areOne_101 : decode cX12_areOne 101 = .ok (.iaload, 1) := by decide +kernel
theorem dX12_areOne_102 : decode cX12_areOne 102 = .ok (.iastore, 1) := by decide +kernel
theorem dX12_areOne_103 : decode cX12_areOne 103 = .ok (.aload_n 0, 1) := by decide +kernel
theorem dX12_areOne_104 : decode cX12_areOne 104 = .ok (.getfield 106, 3) := by decide +kernel
theorem dX12_areOne_107 : decode cX12_areOne 107 = .ok (.iload 4, 2) := by decide +kernel
theorem dX12_areOne_109 : decode cX12_areOne 109 = .ok (.aload_n 0, 1) := by decide +kernel
theorem dX12_areOne_110 : decode cX12_areOne 110 = .ok (.iload_n 1, 1) := by decide +kernel
theorem dX12_areOne_111 : decode cX12_areOne 111 = .ok (.aload_n 0, 1) := by decide +kernel
theorem dX12_areOne_112 : decode cX12_areOne 112 = .ok (.getfield 97, 3) := by decide +kernel
theorem dX12_areOne_115 : decode cX12_areOne 115 = .ok (.iload 4, 2) := by decide +kernel
theorem dX12_areOne_117 : decode cX12_areOne 117 = .ok (.iaload, 1) := by decide +kernel
theorem dX12_areOne_118 : decode cX12_areOne 118 = .ok (.invokevirtual 529, 3) := by decide +kernel
theorem dX12_areOne_121 : decode cX12_areOne 121 = .ok (.iastore, 1) := by decide +kernel
theorem dX12_areOne_122 : decode cX12_areOne 122 = .ok (.iinc 4 1, 3) := by decide +kernel
theorem dX12_areOne_125 : decode cX12_areOne 125 = .ok (.goto (-42), 3) := by decide +kernel
theorem dX12_areOne_128 : decode cX12_areOne 128 = .ok (.aload_n 0, 1) := by decide +kernel
theorem dX12_areOne_129 : decode cX12_areOne 129 = .ok (.iload_n 2, 1) := by decide +kernel
theorem dX12_areOne_130 : decode cX12_areOne 130 = .ok (.invokevirtual 474, 3) := by decide +kernel
theorem dX12_areOne_133 : decode cX12_areOne 133 = .ok (.iconst 0, 1) := by decide +kernel
theorem dX12_areOne_134 : decode cX12_areOne 134 = .ok (.istore 4, 2) := by decide +kernel
theorem dX12_areOne_136 : decode cX12_areOne 136 = .ok (.iload 4, 2) := by decide +kernel
theorem dX12_areOne_138 : decode cX12_areOne 138 = .ok (.iload_n 3, 1) := by decide +kernel
theorem dX12_areOne_139 : decode cX12_areOne 139 = .ok (.if_icmp .ge 50, 3) := by decide +kernel
theorem dX12_areOne_142 : decode cX12_areOne 142 = .ok (.aload_n 0, 1) := by decide +kernel
theorem dX12_areOne_143 : decode cX12_areOne 143 = .ok (.getfield 103, 3) := by decide +kernel
theorem dX12_areOne_146 : decode cX12_areOne 146 = .ok (.iload 4, 2) := by decide +kernel
theorem dX12_areOne_148 : decode cX12_areOne 148 = .ok (.iaload, 1) := by decide +kernel
theorem dX12_areOne_149 : decode cX12_areOne 149 = .ok (.aload_n 0, 1) := by decide +kernel
theorem dX12_areOne_150 : decode cX12_areOne 150 = .ok (.getfield 94, 3) := by decide +kernel
theorem dX12_areOne_153 : decode cX12_areOne 153 = .ok (.iload 4, 2) := by decide +kernel
theorem dX12_areOne_155 : decode cX12_areOne 155 = .ok (.iaload, 1) := by decide +kernel
theorem dX12_areOne_156 : decode cX12_areOne 156 = .ok (.if_icmp .ne 25, 3) := by decide +kernel
theorem dX12_areOne_159 : decode cX12_areOne 159 = .ok (.aload_n 0, 1) := by decide +kernel
theorem dX12_areOne_160 : decode cX12_areOne 160 = .ok (.getfield 106, 3) := by decide +kernel
theorem dX12_areOne_163 : decode cX12_areOne 163 = .ok (.iload 4, 2) := by decide +kernel
theorem dX12_areOne_165 : decode cX12_areOne 165 = .ok (.iaload, 1) := by decide +kernel
theorem dX12_areOne_166 : decode cX12_areOne 166 = .ok (.aload_n 0, 1) := by decide +kernel
theorem dX12_areOne_167 : decode cX12_areOne 167 = .ok (.iload_n 2, 1) := by decide +kernel
theorem dX12_areOne_168 : decode cX12_areOne 168 = .ok (.aload_n 0, 1) := by decide +kernel
theorem dX12_areOne_169 : decode cX12_areOne 169 = .ok (.getfield 97, 3) := by decide +kernel
theorem dX12_areOne_172 : decode cX12_areOne 172 = .ok (.iload 4, 2) := by decide +kernel
theorem dX12_areOne_174 : decode cX12_areOne 174 = .ok (.iaload, 1) := by decide +kernel
theorem dX12_areOne_175 : decode cX12_areOne 175 = .ok (.invokevirtual 529, 3) := by decide +kernel
theorem dX12_areOne_178 : decode cX12_areOne 178 = .ok (.if_icmp .eq 5, 3) := by decide +kernel
theorem dX12_areOne_181 : decode cX12_areOne 181 = .ok (.iconst 0, 1) := by decide +kernel
theorem dX12_areOne_182 : decode cX12_areOne 182 = .ok (.ireturn, 1) := by decide +kernel
theorem dX12_areOne_183 : decode cX12_areOne 183 = .ok (.iinc 4 1, 3) := by decide +kernel
theorem dX12_areOne_186 : decode cX12_areOne 186 = .ok (.goto (-50), 3) := by decide +kernel
theorem dX12_areOne_189 : decode cX12_areOne 189 = .ok (.iconst 1, 1) := by decide +kernel
theorem dX12_areOne_190 : decode cX12_areOne 190 = .ok (.ireturn, 1) := by decide +kernel
abbrev rmX12_areOne : Room := { frames := 4, cells := 0, slots := 0, locals := 113 }
noncomputable def fLX12_areOne_83 (x0 : Nat) (x1 : Int32) (x2 : Int32) (x3 : Int32) (a : Int32 × St) : Option ((Int32 × St) ⊕ (St)) :=
if x3 ≤ a.1 then
(some (Sum.inr a.2))
else
((gR a.2 x0 11 56).bind fun v90 =>
(gR a.2 x0 11 52).bind fun v96 =>
(aI a.2 v96 0 a.1).bind fun v101 =>
(sI a.2 v90 a.1 v101).bind fun σ102 =>
(gR σ102 x0 11 57).bind fun v104 =>
(gR σ102 x0 11 53).bind fun v112 =>
(aI σ102 v112 0 a.1).bind fun v117 =>
(isO σ102 x0 11).bind fun _ =>
(fX12_ruleOf σ102 x0 x1 v117).bind fun w118 =>
(sI σ102 v104 a.1 w118).bind fun σ121 =>
xlet (a.1 + 1) fun v122 =>
some (Sum.inl (v122, σ121)))
set_option maxHeartbeats 4000000 in
set_option maxRecDepth 100000 in
theorem lpX12_areOne_83 {X : xX} {x0 : Nat} {x1 : Int32} {x2 : Int32} {x3 : Int32}  {a0 : Int32 × St} {b : St} (C : Ok X cX12_areOne 5 RX12 rmX12_areOne (some .boolean)) (hb : iterP (fLX12_areOne_83 x0 x1 x2 x3) a0 = some b) (hy0 : ∀ s, b = s → V X (0, 0) s 128 [(0, .ref (x0)), (2, .int (x2)), (3, .int (x3))] []) : V X (0, 0) a0.2 83 [(0, .ref (x0)), (1, .int (x1)), (2, .int (x2)), (3, .int (x3)), (4, .int (a0.1))] [] := by
  obtain ⟨n, hn⟩ := iterP_some hb
  refine x_loop (P := fun a => V X (0, 0) a.2 83 [(0, .ref (x0)), (1, .int (x1)), (2, .int (x2)), (3, .int (x3)), (4, .int (a.1))] []) ?_ n a0 hn
  intro a c hf hK hxx
  have hx0 : ∀ s, c = Sum.inr s → V X (0, 0) s 128 [(0, .ref (x0)), (2, .int (x2)), (3, .int (x3))] [] := fun s e => hy0 s (hxx _ e).symm
  unfold fLX12_areOne_83 at hf
  refine x_iload C dX12_areOne_83 85 rfl 4 rfl ?_
  refine x_iload_n C dX12_areOne_85 86 rfl 3 rfl rfl ?_
  refine x_icmp_ge C dX12_areOne_86 128 (by decide) 89 rfl (fun hc => ?_) (fun hc => ?_)
  · have hf := (if_pos hc).symm.trans hf
    refine x_lv [0, 2, 3] (lv' := [(0, .ref (x0)), (2, .int (x2)), (3, .int (x3))]) rfl ?_
    exact hx0 _ (Option.some.inj hf).symm
  · have hf := (if_neg hc).symm.trans hf
    refine x_aload_n C dX12_areOne_89 90 rfl 0 rfl rfl ?_
    obtain ⟨v90, hv90, hf⟩ := x_bind hf
    refine x_getR C dX12_areOne_90 93 rfl hv90 cl11 rfl w1499 ?_
    refine x_iload C dX12_areOne_93 95 rfl 4 rfl ?_
    refine x_aload_n C dX12_areOne_95 96 rfl 0 rfl rfl ?_
    obtain ⟨v96, hv96, hf⟩ := x_bind hf
    refine x_getR C dX12_areOne_96 99 rfl hv96 cl11 rfl w1495 ?_
    refine x_iload C dX12_areOne_99 101 rfl 4 rfl ?_
    obtain ⟨v101, hv101, hf⟩ := x_bind hf
    refine x_iaload C dX12_areOne_101 102 rfl hv101 ?_
    obtain ⟨σ102, hσ102, hf⟩ := x_bind hf
    refine x_iastore C dX12_areOne_102 103 rfl hσ102 ?_
    refine x_aload_n C dX12_areOne_103 104 rfl 0 rfl rfl ?_
    obtain ⟨v104, hv104, hf⟩ := x_bind hf
    refine x_getR C dX12_areOne_104 107 rfl hv104 cl11 rfl w1500 ?_
    refine x_iload C dX12_areOne_107 109 rfl 4 rfl ?_
    refine x_aload_n C dX12_areOne_109 110 rfl 0 rfl rfl ?_
    refine x_iload_n C dX12_areOne_110 111 rfl 1 rfl rfl ?_
    refine x_aload_n C dX12_areOne_111 112 rfl 0 rfl rfl ?_
    obtain ⟨v112, hv112, hf⟩ := x_bind hf
    refine x_getR C dX12_areOne_112 115 rfl hv112 cl11 rfl w1496 ?_
    refine x_iload C dX12_areOne_115 117 rfl 4 rfl ?_
    obtain ⟨v117, hv117, hf⟩ := x_bind hf
    refine x_iaload C dX12_areOne_117 118 rfl hv117 ?_
    obtain ⟨o118, ho118, hf⟩ := x_bind hf
    obtain ⟨w118, hw118, hf⟩ := x_bind hf
    refine x_callVi C dX12_areOne_118 121 rfl ho118 cl11.1 rfl (cX12_ruleOfc hw118) kX12_ruleOf kvX12_ruleOf w2005 ⟨rfl, rfl⟩ ⟨Nat.le_of_ble_eq_true rfl, Nat.le_of_ble_eq_true rfl⟩ ⟨Nat.zero_le _, Nat.zero_le _⟩ rfl rfl (Nat.le_of_ble_eq_true rfl) ?_
    obtain ⟨σ121, hσ121, hf⟩ := x_bind hf
    refine x_iastore C dX12_areOne_121 122 rfl hσ121 ?_
    obtain ⟨v122, ev122, hf⟩ := xlet_some hf
    refine x_iinc C dX12_areOne_122 125 rfl 4 rfl v122 ev122 rfl [(4, .int (v122)), (0, .ref (x0)), (1, .int (x1)), (2, .int (x2)), (3, .int (x3))] rfl ?_
    refine x_goto C dX12_areOne_125 83 (by decide) ?_
    refine x_lv [1, 2, 3, 4, 0] (lv' := [(0, .ref (x0)), (1, .int (x1)), (2, .int (x2)), (3, .int (x3)), (4, .int (v122))]) rfl ?_
    exact hK _ (Option.some.inj hf).symm
noncomputable def fLX12_areOne_136 (σ : St) (x0 : Nat) (x2 : Int32) (x3 : Int32) (a : Int32) : Option ((Int32) ⊕ ((Unit) ⊕ (Unit))) :=
if x3 ≤ a then
(some (Sum.inr (Sum.inr ())))
else
((gR σ x0 11 56).bind fun v143 =>
(aI σ v143 0 a).bind fun v148 =>
(gR σ x0 11 52).bind fun v150 =>
(aI σ v150 0 a).bind fun v155 =>
if v148 = v155 then
((gR σ x0 11 57).bind fun v160 =>
(aI σ v160 0 a).bind fun v165 =>
(gR σ x0 11 53).bind fun v169 =>
(aI σ v169 0 a).bind fun v174 =>
(isO σ x0 11).bind fun _ =>
(fX12_ruleOf σ x0 x2 v174).bind fun w175 =>
if v165 = w175 then
(xlet (a + 1) fun v183 =>
some (Sum.inl v183))
else
(some (Sum.inr (Sum.inl ()))))
else
(some (Sum.inr (Sum.inl ()))))
set_option maxHeartbeats 4000000 in
set_option maxRecDepth 100000 in
theorem lpX12_areOne_136 {X : xX} {σ : St} {x0 : Nat} {x2 : Int32} {x3 : Int32}  {a0 : Int32} {b : (Unit) ⊕ (Unit)} (C : Ok X cX12_areOne 5 RX12 rmX12_areOne (some .boolean)) (hb : iterP (fLX12_areOne_136 σ x0 x2 x3) a0 = some b) (hy0 : ∀ s, b = (Sum.inl s) → V X (0, 0) σ 181 [] []) (hy1 : ∀ s, b = (Sum.inr s) → V X (0, 0) σ 189 [] []) : V X (0, 0) σ 136 [(0, .ref (x0)), (2, .int (x2)), (3, .int (x3)), (4, .int (a0))] [] := by
  obtain ⟨n, hn⟩ := iterP_some hb
  refine x_loop (P := fun a => V X (0, 0) σ 136 [(0, .ref (x0)), (2, .int (x2)), (3, .int (x3)), (4, .int (a))] []) ?_ n a0 hn
  intro a c hf hK hxx
  have hx0 : ∀ s, c = Sum.inr (Sum.inl s) → V X (0, 0) σ 181 [] [] := fun s e => hy0 s (hxx _ e).symm
  have hx1 : ∀ s, c = Sum.inr (Sum.inr s) → V X (0, 0) σ 189 [] [] := fun s e => hy1 s (hxx _ e).symm
  unfold fLX12_areOne_136 at hf
  refine x_iload C dX12_areOne_136 138 rfl 3 rfl ?_
  refine x_iload_n C dX12_areOne_138 139 rfl 2 rfl rfl ?_
  refine x_icmp_ge C dX12_areOne_139 189 (by decide) 142 rfl (fun hc => ?_) (fun hc => ?_)
  · have hf := (if_pos hc).symm.trans hf
    refine x_lv [] (lv' := []) rfl ?_
    exact hx1 _ (Option.some.inj hf).symm
  · have hf := (if_neg hc).symm.trans hf
    refine x_aload_n C dX12_areOne_142 143 rfl 0 rfl rfl ?_
    obtain ⟨v143, hv143, hf⟩ := x_bind hf
    refine x_getR C dX12_areOne_143 146 rfl hv143 cl11 rfl w1499 ?_
    refine x_iload C dX12_areOne_146 148 rfl 3 rfl ?_
    obtain ⟨v148, hv148, hf⟩ := x_bind hf
    refine x_iaload C dX12_areOne_148 149 rfl hv148 ?_
    refine x_aload_n C dX12_areOne_149 150 rfl 0 rfl rfl ?_
    obtain ⟨v150, hv150, hf⟩ := x_bind hf
    refine x_getR C dX12_areOne_150 153 rfl hv150 cl11 rfl w1495 ?_
    refine x_iload C dX12_areOne_153 155 rfl 3 rfl ?_
    obtain ⟨v155, hv155, hf⟩ := x_bind hf
    refine x_iaload C dX12_areOne_155 156 rfl hv155 ?_
    refine x_icmp_ne C dX12_areOne_156 181 (by decide) 159 rfl (fun hc => ?_) (fun hc => ?_)
    · have hf := (if_neg hc).symm.trans hf
      refine x_lv [] (lv' := []) rfl ?_
      exact hx0 _ (Option.some.inj hf).symm
    · have hf := (if_pos hc).symm.trans hf
      refine x_aload_n C dX12_areOne_159 160 rfl 0 rfl rfl ?_
      obtain ⟨v160, hv160, hf⟩ := x_bind hf
      refine x_getR C dX12_areOne_160 163 rfl hv160 cl11 rfl w1500 ?_
      refine x_iload C dX12_areOne_163 165 rfl 3 rfl ?_
      obtain ⟨v165, hv165, hf⟩ := x_bind hf
      refine x_iaload C dX12_areOne_165 166 rfl hv165 ?_
      refine x_aload_n C dX12_areOne_166 167 rfl 0 rfl rfl ?_
      refine x_iload_n C dX12_areOne_167 168 rfl 1 rfl rfl ?_
      refine x_aload_n C dX12_areOne_168 169 rfl 0 rfl rfl ?_
      obtain ⟨v169, hv169, hf⟩ := x_bind hf
      refine x_getR C dX12_areOne_169 172 rfl hv169 cl11 rfl w1496 ?_
      refine x_iload C dX12_areOne_172 174 rfl 3 rfl ?_
      obtain ⟨v174, hv174, hf⟩ := x_bind hf
      refine x_iaload C dX12_areOne_174 175 rfl hv174 ?_
      obtain ⟨o175, ho175, hf⟩ := x_bind hf
      obtain ⟨w175, hw175, hf⟩ := x_bind hf
      refine x_callVi C dX12_areOne_175 178 rfl ho175 cl11.1 rfl (cX12_ruleOfc hw175) kX12_ruleOf kvX12_ruleOf w2005 ⟨rfl, rfl⟩ ⟨Nat.le_of_ble_eq_true rfl, Nat.le_of_ble_eq_true rfl⟩ ⟨Nat.zero_le _, Nat.zero_le _⟩ rfl rfl (Nat.le_of_ble_eq_true rfl) ?_
      refine x_icmp_eq C dX12_areOne_178 183 (by decide) 181 rfl (fun hc => ?_) (fun hc => ?_)
      · have hf := (if_pos hc).symm.trans hf
        obtain ⟨v183, ev183, hf⟩ := xlet_some hf
        refine x_iinc C dX12_areOne_183 186 rfl 3 rfl v183 ev183 rfl [(4, .int (v183)), (0, .ref (x0)), (2, .int (x2)), (3, .int (x3))] rfl ?_
        refine x_goto C dX12_areOne_186 136 (by decide) ?_
        refine x_lv [1, 2, 3, 0] (lv' := [(0, .ref (x0)), (2, .int (x2)), (3, .int (x3)), (4, .int (v183))]) rfl ?_
        exact hK _ (Option.some.inj hf).symm
      · have hf := (if_neg hc).symm.trans hf
        refine x_lv [] (lv' := []) rfl ?_
        exact hx0 _ (Option.some.inj hf).symm
noncomputable def fJX12_areOne_m_25 (σ : St) (x0 : Nat) (x1 : Int32) (x2 : Int32) (t0 : Int32) (t1 : Nat) : Option ((Int32 × St)) :=
(isO σ t1 11).bind fun _ =>
(fX12_right σ t1 t0 1).bind fun w26 =>
if w26.1 = 0 then
(some (0, w26.2))
else
((isO w26.2 x0 11).bind fun _ =>
(fX12_stepsOf w26.2 x0 x1).bind fun w36 =>
(gR w26.2 x0 11 1).bind fun v41 =>
(fX12_place x1 1).bind fun w46 =>
(aL w26.2 v41 w46).bind fun v49 =>
(gR w26.2 x0 11 1).bind fun v51 =>
(fX12_place x2 1).bind fun w56 =>
(aL w26.2 v51 w56).bind fun v59 =>
if (lg_cmp v49 v59) = 0 then
((isO w26.2 x0 11).bind fun _ =>
(fX12_stepsOf w26.2 x0 x2).bind fun w67 =>
if w36 = w67 then
((isO w26.2 x0 11).bind fun _ =>
(fX12_laysDrawing w26.2 x0 x1).bind fun w77 =>
(iterP (fLX12_areOne_83 x0 x1 x2 w36) (0, w77)).bind fun b83 =>
(isO b83 x0 11).bind fun _ =>
(fX12_laysDrawing b83 x0 x2).bind fun w130 =>
(iterP (fLX12_areOne_136 w130 x0 x2 w36) 0).bind fun b136 =>
(match b136 with
| .inl s136 =>
some (0, w130)
| .inr s136 =>
some (1, w130)))
else
(some (0, w26.2)))
else
(some (0, w26.2)))
set_option maxHeartbeats 4000000 in
set_option maxRecDepth 100000 in
theorem jnX12_areOne_m_25 {X : xX} {σ : St} {x0 : Nat} {x1 : Int32} {x2 : Int32} {t0 : Int32} {t1 : Nat}  {c : (Int32 × St)} (C : Ok X cX12_areOne 5 RX12 rmX12_areOne (some .boolean)) (hf : fJX12_areOne_m_25 σ x0 x1 x2 t0 t1 = some c) (hE : ∀ r, c = r → xE1 X (some (.int r.1)) r.2) : V X (0, 0) σ 25 [(0, .ref (x0)), (1, .int (x1)), (2, .int (x2))] [.int (t0), .ref (t1)] := by
  unfold fJX12_areOne_m_25 at hf
  refine x_iconst C dX12_areOne_25 26 rfl 1 (by decide) ?_
  obtain ⟨o26, ho26, hf⟩ := x_bind hf
  obtain ⟨w26, hw26, hf⟩ := x_bind hf
  refine x_callVi C dX12_areOne_26 29 rfl ho26 cl11.1 rfl (cX12_rightc hw26) kX12_right kvX12_right w1648 ⟨rfl, rfl⟩ ⟨Nat.le_of_ble_eq_true rfl, Nat.le_of_ble_eq_true rfl⟩ ⟨Nat.zero_le _, Nat.zero_le _⟩ rfl rfl (Nat.le_of_ble_eq_true rfl) ?_
  refine x_if_ne C dX12_areOne_29 34 (by decide) 32 rfl (fun hc => ?_) (fun hc => ?_)
  · have hf := (if_neg hc).symm.trans hf
    refine x_aload_n C dX12_areOne_34 35 rfl 0 rfl rfl ?_
    refine x_iload_n C dX12_areOne_35 36 rfl 1 rfl rfl ?_
    obtain ⟨o36, ho36, hf⟩ := x_bind hf
    obtain ⟨w36, hw36, hf⟩ := x_bind hf
    refine x_callVi C dX12_areOne_36 39 rfl ho36 cl11.1 rfl (cX12_stepsOfc hw36) kX12_stepsOf kvX12_stepsOf w1980 ⟨rfl, rfl⟩ ⟨Nat.le_of_ble_eq_true rfl, Nat.le_of_ble_eq_true rfl⟩ ⟨Nat.zero_le _, Nat.zero_le _⟩ rfl rfl (Nat.le_of_ble_eq_true rfl) ?_
    refine x_istore_n C dX12_areOne_39 40 rfl rfl rfl [(3, .int (w36)), (0, .ref (x0)), (1, .int (x1)), (2, .int (x2))] rfl ?_
    refine x_aload_n C dX12_areOne_40 41 rfl 1 rfl rfl ?_
    obtain ⟨v41, hv41, hf⟩ := x_bind hf
    refine x_getR C dX12_areOne_41 44 rfl hv41 cl11 rfl w1444 ?_
    refine x_iload_n C dX12_areOne_44 45 rfl 2 rfl rfl ?_
    refine x_iconst C dX12_areOne_45 46 rfl 1 (by decide) ?_
    obtain ⟨w46, hw46, hf⟩ := x_bind hf
    refine x_callSi C dX12_areOne_46 49 rfl (cX12_placec hw46) kX12_place ksX12_place w1849 ⟨rfl, rfl⟩ ⟨Nat.le_of_ble_eq_true rfl, Nat.le_of_ble_eq_true rfl⟩ ⟨Nat.zero_le _, Nat.zero_le _⟩ rfl rfl (Nat.le_of_ble_eq_true rfl) ?_
    obtain ⟨v49, hv49, hf⟩ := x_bind hf
    refine x_laload C dX12_areOne_49 50 rfl hv49 ?_
    refine x_aload_n C dX12_areOne_50 51 rfl 1 rfl rfl ?_
    obtain ⟨v51, hv51, hf⟩ := x_bind hf
    refine x_getR C dX12_areOne_51 54 rfl hv51 cl11 rfl w1444 ?_
    refine x_iload_n C dX12_areOne_54 55 rfl 3 rfl rfl ?_
    refine x_iconst C dX12_areOne_55 56 rfl 1 (by decide) ?_
    obtain ⟨w56, hw56, hf⟩ := x_bind hf
    refine x_callSi C dX12_areOne_56 59 rfl (cX12_placec hw56) kX12_place ksX12_place w1849 ⟨rfl, rfl⟩ ⟨Nat.le_of_ble_eq_true rfl, Nat.le_of_ble_eq_true rfl⟩ ⟨Nat.zero_le _, Nat.zero_le _⟩ rfl rfl (Nat.le_of_ble_eq_true rfl) ?_
    obtain ⟨v59, hv59, hf⟩ := x_bind hf
    refine x_laload C dX12_areOne_59 60 rfl hv59 ?_
    refine x_lcmp C dX12_areOne_60 61 rfl ?_
    refine x_if_ne C dX12_areOne_61 73 (by decide) 64 rfl (fun hc => ?_) (fun hc => ?_)
    · have hf := (if_neg hc).symm.trans hf
      refine x_iconst C dX12_areOne_73 74 rfl 0 (by decide) ?_
      exact x_zret C rfl (hE _ (Option.some.inj hf).symm) dX12_areOne_74
    · have hf := (if_pos hc).symm.trans hf
      refine x_iload_n C dX12_areOne_64 65 rfl 0 rfl rfl ?_
      refine x_aload_n C dX12_areOne_65 66 rfl 1 rfl rfl ?_
      refine x_iload_n C dX12_areOne_66 67 rfl 3 rfl rfl ?_
      obtain ⟨o67, ho67, hf⟩ := x_bind hf
      obtain ⟨w67, hw67, hf⟩ := x_bind hf
      refine x_callVi C dX12_areOne_67 70 rfl ho67 cl11.1 rfl (cX12_stepsOfc hw67) kX12_stepsOf kvX12_stepsOf w1980 ⟨rfl, rfl⟩ ⟨Nat.le_of_ble_eq_true rfl, Nat.le_of_ble_eq_true rfl⟩ ⟨Nat.zero_le _, Nat.zero_le _⟩ rfl rfl (Nat.le_of_ble_eq_true rfl) ?_
      refine x_icmp_eq C dX12_areOne_70 75 (by decide) 73 rfl (fun hc => ?_) (fun hc => ?_)
      · have hf := (if_pos hc).symm.trans hf
        refine x_aload_n C dX12_areOne_75 76 rfl 1 rfl rfl ?_
        refine x_iload_n C dX12_areOne_76 77 rfl 2 rfl rfl ?_
        obtain ⟨o77, ho77, hf⟩ := x_bind hf
        obtain ⟨w77, hw77, hf⟩ := x_bind hf
        refine x_callVv C dX12_areOne_77 80 rfl ho77 cl11.1 rfl (cX12_laysDrawingc hw77) kX12_laysDrawing kvX12_laysDrawing w1984 ⟨rfl, rfl⟩ ⟨Nat.le_of_ble_eq_true rfl, Nat.le_of_ble_eq_true rfl⟩ ⟨Nat.zero_le _, Nat.zero_le _⟩ rfl rfl (Nat.le_of_ble_eq_true rfl) ?_
        refine x_iconst C dX12_areOne_80 81 rfl 0 (by decide) ?_
        refine x_istore C dX12_areOne_81 83 rfl rfl [(4, .int (0)), (3, .int (w36)), (0, .ref (x0)), (1, .int (x1)), (2, .int (x2))] rfl ?_
        obtain ⟨b83, hb83, hf⟩ := x_bind hf
        refine x_lv [2, 3, 4, 1, 0] (lv' := [(0, .ref (x0)), (1, .int (x1)), (2, .int (x2)), (3, .int (w36)), (4, .int (0))]) rfl ?_
        refine lpX12_areOne_83 C hb83 (fun s83 e83 => ?_)
        subst e83
        refine x_aload_n C dX12_areOne_128 129 rfl 0 rfl rfl ?_
        refine x_iload_n C dX12_areOne_129 130 rfl 1 rfl rfl ?_
        obtain ⟨o130, ho130, hf⟩ := x_bind hf
        obtain ⟨w130, hw130, hf⟩ := x_bind hf
        refine x_callVv C dX12_areOne_130 133 rfl ho130 cl11.1 rfl (cX12_laysDrawingc hw130) kX12_laysDrawing kvX12_laysDrawing w1984 ⟨rfl, rfl⟩ ⟨Nat.le_of_ble_eq_true rfl, Nat.le_of_ble_eq_true rfl⟩ ⟨Nat.zero_le _, Nat.zero_le _⟩ rfl rfl (Nat.le_of_ble_eq_true rfl) ?_
        refine x_iconst C dX12_areOne_133 134 rfl 0 (by decide) ?_
        refine x_istore C dX12_areOne_134 136 rfl rfl [(4, .int (0)), (0, .ref (x0)), (2, .int (x2)), (3, .int (w36))] rfl ?_
        obtain ⟨b136, hb136, hf⟩ := x_bind hf
        refine x_lv [1, 2, 3, 0] (lv' := [(0, .ref (x0)), (2, .int (x2)), (3, .int (w36)), (4, .int (0))]) rfl ?_
        refine lpX12_areOne_136 C hb136 (fun s136 e136 => ?_) (fun s136 e136 => ?_)
        · subst e136
          try dsimp only at hf
          refine x_iconst C dX12_areOne_181 182 rfl 0 (by decide) ?_
          exact x_zret C rfl (hE _ (Option.some.inj hf).symm) dX12_areOne_182
        · subst e136
          try dsimp only at hf
          refine x_iconst C dX12_areOne_189 190 rfl 1 (by decide) ?_
          exact x_zret C rfl (hE _ (Option.some.inj hf).symm) dX12_areOne_190
      · have hf := (if_neg hc).symm.trans hf
        refine x_iconst C dX12_areOne_73 74 rfl 0 (by decide) ?_
        exact x_zret C rfl (hE _ (Option.some.inj hf).symm) dX12_areOne_74
  · have hf := (if_pos hc).symm.trans hf
    refine x_iconst C dX12_areOne_32 33 rfl 0 (by decide) ?_
    exact x_zret C rfl (hE _ (Option.some.inj hf).symm) dX12_areOne_33
noncomputable def fJX12_areOne_m_24 (σ : St) (x0 : Nat) (x1 : Int32) (x2 : Int32) (t0 : Nat) : Option ((Int32 × St)) :=
fJX12_areOne_m_25 σ x0 x1 x2 0 t0
set_option maxHeartbeats 4000000 in
set_option maxRecDepth 100000 in
theorem jnX12_areOne_m_24 {X : xX} {σ : St} {x0 : Nat} {x1 : Int32} {x2 : Int32} {t0 : Nat}  {c : (Int32 × St)} (C : Ok X cX12_areOne 5 RX12 rmX12_areOne (some .boolean)) (hf : fJX12_areOne_m_24 σ x0 x1 x2 t0 = some c) (hE : ∀ r, c = r → xE1 X (some (.int r.1)) r.2) : V X (0, 0) σ 24 [(0, .ref (x0)), (1, .int (x1)), (2, .int (x2))] [.ref (t0)] := by
  unfold fJX12_areOne_m_24 at hf
  refine x_iconst C dX12_areOne_24 25 rfl 0 (by decide) ?_
  exact jnX12_areOne_m_25 C hf hE
noncomputable def fX12_areOne (σ : St) (x0 : Nat) (x1 : Int32) (x2 : Int32) : Option ((Int32 × St)) :=
(wrF σ x0 11 0 (.int (0))).bind fun σ2 =>
(fX12_isPlace x1).bind fun w7 =>
if w7 = 0 then
(fJX12_areOne_m_24 σ2 x0 x1 x2 x0)
else
((fX12_isPlace x2).bind fun w14 =>
if w14 = 0 then
(fJX12_areOne_m_24 σ2 x0 x1 x2 x0)
else
(fJX12_areOne_m_25 σ2 x0 x1 x2 1 x0))
set_option maxHeartbeats 4000000 in
set_option maxRecDepth 100000 in
theorem cX12_areOnec {l : Launch} {G : xG} {A : Nat → Prop} {σ : St} {x0 : Nat} {x1 : Int32} {x2 : Int32} {c : (Int32 × St)} (hf : fX12_areOne σ x0 x1 x2 = some c) : Con l yX12_areOne (xws yX12_areOne cX12_areOne 5 (some .boolean)) rmX12_areOne [.ref (x0), .int (x1), .int (x2)] G A σ (some (.int c.1)) c.2 := by
  refine x_start rfl (Nat.le_of_ble_eq_true rfl) (fun X _ _ _ C hE0 => ?_)
  have hE : ∀ r, c = r → xE1 X (some (.int r.1)) r.2 := fun r e => e ▸ hE0
  show V X (0, 0) σ 0 [(0, .ref (x0)), (1, .int (x1)), (2, .int (x2))] []
  unfold fX12_areOne at hf
  refine x_aload_n C dX12_areOne_0 1 rfl 0 rfl rfl ?_
  refine x_iconst C dX12_areOne_1 2 rfl 0 (by decide) ?_
  obtain ⟨σ2, hσ2, hf⟩ := x_bind hf
  refine x_putX C dX12_areOne_2 5 rfl hσ2 cl11 rfl w1443 rfl rfl rfl ?_
  refine x_aload_n C dX12_areOne_5 6 rfl 0 rfl rfl ?_
  refine x_iload_n C dX12_areOne_6 7 rfl 1 rfl rfl ?_
  obtain ⟨w7, hw7, hf⟩ := x_bind hf
  refine x_callSi C dX12_areOne_7 10 rfl (cX12_isPlacec hw7) kX12_isPlace ksX12_isPlace w1942 ⟨rfl, rfl⟩ ⟨Nat.le_of_ble_eq_true rfl, Nat.le_of_ble_eq_true rfl⟩ ⟨Nat.zero_le _, Nat.zero_le _⟩ rfl rfl (Nat.le_of_ble_eq_true rfl) ?_
  refine x_if_eq C dX12_areOne_10 24 (by decide) 13 rfl (fun hc => ?_) (fun hc => ?_)
  · have hf := (if_pos hc).symm.trans hf
    exact jnX12_areOne_m_24 C hf hE
  · have hf := (if_neg hc).symm.trans hf
    refine x_iload_n C dX12_areOne_13 14 rfl 2 rfl rfl ?_
    obtain ⟨w14, hw14, hf⟩ := x_bind hf
    refine x_callSi C dX12_areOne_14 17 rfl (cX12_isPlacec hw14) kX12_isPlace ksX12_isPlace w1942 ⟨rfl, rfl⟩ ⟨Nat.le_of_ble_eq_true rfl, Nat.le_of_ble_eq_true rfl⟩ ⟨Nat.zero_le _, Nat.zero_le _⟩ rfl rfl (Nat.le_of_ble_eq_true rfl) ?_
    refine x_if_eq C dX12_areOne_17 24 (by decide) 20 rfl (fun hc => ?_) (fun hc => ?_)
    · have hf := (if_pos hc).symm.trans hf
      exact jnX12_areOne_m_24 C hf hE
    · have hf := (if_neg hc).symm.trans hf
      refine x_iconst C dX12_areOne_20 21 rfl 1 (by decide) ?_
      refine x_goto C dX12_areOne_21 25 (by decide) ?_
      exact jnX12_areOne_m_25 C hf hE
theorem dX12_wordAt_0 : decode cX12_wordAt 0 = .ok (.aload_n 0, 1) := by decide +kernel
theorem dX12_wordAt_1 : decode cX12_wordAt 1 = .ok (.getfield 13, 3) := by decide +kernel
theorem dX12_wordAt_4 : decode cX12_wordAt 4 = .ok (.iload_n 1, 1) := by decide +kernel
theorem dX12_wordAt_5 : decode cX12_wordAt 5 = .ok (.iconst 0, 1) := by decide +kernel
theorem dX12_wordAt_6 : decode cX12_wordAt 6 = .ok (.invokestatic 124, 3) := by decide +kernel
theorem dX12_wordAt_9 : decode cX12_wordAt 9 = .ok (.laload, 1) := by decide +kernel
theorem dX12_wordAt_10 : decode cX12_wordAt 10 = .ok (.lreturn, 1) := by decide +kernel
abbrev rmX12_wordAt : Room := { frames := 1, cells := 0, slots := 0, locals := 21 }
noncomputable def fX12_wordAt (σ : St) (x0 : Nat) (x1 : Int32) : Option (Int64) :=
(gR σ x0 11 1).bind fun v1 =>
(fX12_place x1 0).bind fun w6 =>
(aL σ v1 w6).bind fun v9 =>
some v9
set_option maxHeartbeats 4000000 in
set_option maxRecDepth 100000 in
theorem cX12_wordAtc {l : Launch} {G : xG} {A : Nat → Prop} {σ : St} {x0 : Nat} {x1 : Int32} {c : Int64} (hf : fX12_wordAt σ x0 x1 = some c) : Con l yX12_wordAt (xws yX12_wordAt cX12_wordAt 2 (some .long)) rmX12_wordAt [.ref (x0), .int (x1)] G A σ (some (.long c)) σ := by
  refine x_start rfl (Nat.le_of_ble_eq_true rfl) (fun X _ _ _ C hE0 => ?_)
  have hE : ∀ r, c = r → xE1 X (some (.long r)) σ := fun r e => e ▸ hE0
  show V X (0, 0) σ 0 [(0, .ref (x0)), (1, .int (x1))] []
  unfold fX12_wordAt at hf
  refine x_aload_n C dX12_wordAt_0 1 rfl 0 rfl rfl ?_
  obtain ⟨v1, hv1, hf⟩ := x_bind hf
  refine x_getR C dX12_wordAt_1 4 rfl hv1 cl11 rfl w1444 ?_
  refine x_iload_n C dX12_wordAt_4 5 rfl 1 rfl rfl ?_
  refine x_iconst C dX12_wordAt_5 6 rfl 0 (by decide) ?_
  obtain ⟨w6, hw6, hf⟩ := x_bind hf
  refine x_callSi C dX12_wordAt_6 9 rfl (cX12_placec hw6) kX12_place ksX12_place w1849 ⟨rfl, rfl⟩ ⟨Nat.le_of_ble_eq_true rfl, Nat.le_of_ble_eq_true rfl⟩ ⟨Nat.zero_le _, Nat.zero_le _⟩ rfl rfl (Nat.le_of_ble_eq_true rfl) ?_
  obtain ⟨v9, hv9, hf⟩ := x_bind hf
  refine x_laload C dX12_wordAt_9 10 rfl hv9 ?_
  exact x_lret C (hE _ (Option.some.inj hf).symm) dX12_wordAt_10
theorem dX12_at_0 : decode cX12_at 0 = .ok (.aload_n 0, 1) := by decide +kernel
theorem dX12_at_1 : decode cX12_at 1 = .ok (.iconst 0, 1) := by decide +kernel
theorem dX12_at_2 : decode cX12_at 2 = .ok (.putfield 1, 3) := by decide +kernel
theorem dX12_at_5 : decode cX12_at 5 = .ok (.aload_n 0, 1) := by decide +kernel
theorem dX12_at_6 : decode cX12_at 6 = .ok (.iload_n 1, 1) := by decide +kernel
theorem dX12_at_7 : decode cX12_at 7 = .ok (.invokestatic 452, 3) := by decide +kernel
theorem dX12_at_10 : decode cX12_at 10 = .ok (.ifCond .eq 11, 3) := by decide +kernel
theorem dX12_at_13 : decode cX12_at 13 = .ok (.iload_n 2, 1) := by decide +kernel
theorem dX12_at_14 : decode cX12_at 14 = .ok (.ifCond .lt 7, 3) := by decide +kernel
theorem dX12_at_17 : decode cX12_at 17 = .ok (.iconst 1, 1) := by decide +kernel
theorem dX12_at_18 : decode cX12_at 18 = .ok (.goto 4, 3) := by decide +kernel
theorem dX12_at_21 : decode cX12_at 21 = .ok (.iconst 0, 1) := by decide +kernel
theorem dX12_at_22 : decode cX12_at 22 = .ok (.iconst 1, 1) := by decide +kernel
theorem dX12_at_23 : decode cX12_at 23 = .ok (.invokevirtual 265, 3) := by decide +kernel
theorem dX12_at_26 : decode cX12_at 26 = .ok (.ifCond .ne 5, 3) := by decide +kernel
theorem dX12_at_29 : decode cX12_at 29 = .ok (.iconst 0, 1) := by decide +kernel
theorem dX12_at_30 : decode cX12_at 30 = .ok (.ireturn, 1) := by decide +kernel
theorem dX12_at_31 : decode cX12_at 31 = .ok (.iload_n 2, 1) := by decide +kernel
theorem dX12_at_32 : decode cX12_at 32 = .ok (.aload_n 0, 1) := by decide +kernel
theorem dX12_at_33 : decode cX12_at 33 = .ok (.iload_n 1, 1) := by decide +kernel
theorem dX12_at_34 : decode cX12_at 34 = .ok (.invokevirtual 402, 3) := by decide +kernel
theorem dX12_at_37 : decode cX12_at 37 = .ok (.invokestatic 136, 3) := by decide +kernel
theorem dX12_at_40 : decode cX12_at 40 = .ok (.if_icmp .ge 15, 3) := by decide +kernel
theorem dX12_at_43 : decode cX12_at 43 = .ok (.aload_n 0, 1) := by decide +kernel
theorem dX12_at_44 : decode cX12_at 44 = .ok (.iload_n 1, 1) := by decide +kernel
theorem dX12_at_45 : decode cX12_at 45 = .ok (.invokevirtual 402, 3) := by decide +kernel
theorem dX12_at_48 : decode cX12_at 48 = .ok (.iload_n 2, 1) := by decide +kernel
theorem dX12_at_49 : decode cX12_at 49 = .ok (.invokestatic 160, 3) := by decide +kernel
theorem dX12_at_52 : decode cX12_at 52 = .ok (.goto 4, 3) := by decide +kernel
theorem dX12_at_55 : decode cX12_at 55 = .ok (.iconst (-1), 1) := by decide +kernel
theorem dX12_at_56 : decode cX12_at 56 = .ok (.ireturn, 1) := by decide +kernel
abbrev rmX12_at : Room := { frames := 3, cells := 0, slots := 0, locals := 69 }
noncomputable def fJX12_at_m_22 (σ : St) (x0 : Nat) (x1 : Int32) (x2 : Int32) (t0 : Int32) (t1 : Nat) : Option ((Int32 × St)) :=
(isO σ t1 11).bind fun _ =>
(fX12_right σ t1 t0 1).bind fun w23 =>
if w23.1 = 0 then
(some (0, w23.2))
else
((isO w23.2 x0 11).bind fun _ =>
(fX12_wordAt w23.2 x0 x1).bind fun w34 =>
(fX12_length w34).bind fun w37 =>
if w37 ≤ x2 then
(some ((-1), w23.2))
else
((isO w23.2 x0 11).bind fun _ =>
(fX12_wordAt w23.2 x0 x1).bind fun w45 =>
(fX12_letterAt w45 x2).bind fun w49 =>
some (w49, w23.2)))
set_option maxHeartbeats 4000000 in
set_option maxRecDepth 100000 in
theorem jnX12_at_m_22 {X : xX} {σ : St} {x0 : Nat} {x1 : Int32} {x2 : Int32} {t0 : Int32} {t1 : Nat}  {c : (Int32 × St)} (C : Ok X cX12_at 3 RX12 rmX12_at (some .int)) (hf : fJX12_at_m_22 σ x0 x1 x2 t0 t1 = some c) (hE : ∀ r, c = r → xE1 X (some (.int r.1)) r.2) : V X (0, 0) σ 22 [(0, .ref (x0)), (1, .int (x1)), (2, .int (x2))] [.int (t0), .ref (t1)] := by
  unfold fJX12_at_m_22 at hf
  refine x_iconst C dX12_at_22 23 rfl 1 (by decide) ?_
  obtain ⟨o23, ho23, hf⟩ := x_bind hf
  obtain ⟨w23, hw23, hf⟩ := x_bind hf
  refine x_callVi C dX12_at_23 26 rfl ho23 cl11.1 rfl (cX12_rightc hw23) kX12_right kvX12_right w1648 ⟨rfl, rfl⟩ ⟨Nat.le_of_ble_eq_true rfl, Nat.le_of_ble_eq_true rfl⟩ ⟨Nat.zero_le _, Nat.zero_le _⟩ rfl rfl (Nat.le_of_ble_eq_true rfl) ?_
  refine x_if_ne C dX12_at_26 31 (by decide) 29 rfl (fun hc => ?_) (fun hc => ?_)
  · have hf := (if_neg hc).symm.trans hf
    refine x_iload_n C dX12_at_31 32 rfl 2 rfl rfl ?_
    refine x_aload_n C dX12_at_32 33 rfl 0 rfl rfl ?_
    refine x_iload_n C dX12_at_33 34 rfl 1 rfl rfl ?_
    obtain ⟨o34, ho34, hf⟩ := x_bind hf
    obtain ⟨w34, hw34, hf⟩ := x_bind hf
    refine x_callVl C dX12_at_34 37 rfl ho34 cl11.1 rfl (cX12_wordAtc hw34) kX12_wordAt kvX12_wordAt w1845 ⟨rfl, rfl⟩ ⟨Nat.le_of_ble_eq_true rfl, Nat.le_of_ble_eq_true rfl⟩ ⟨Nat.zero_le _, Nat.zero_le _⟩ rfl rfl (Nat.le_of_ble_eq_true rfl) ?_
    obtain ⟨w37, hw37, hf⟩ := x_bind hf
    refine x_callSi C dX12_at_37 40 rfl (cX12_lengthc hw37) kX12_length ksX12_length w1728 ⟨rfl, rfl⟩ ⟨Nat.le_of_ble_eq_true rfl, Nat.le_of_ble_eq_true rfl⟩ ⟨Nat.zero_le _, Nat.zero_le _⟩ rfl rfl (Nat.le_of_ble_eq_true rfl) ?_
    refine x_icmp_ge C dX12_at_40 55 (by decide) 43 rfl (fun hc => ?_) (fun hc => ?_)
    · have hf := (if_pos hc).symm.trans hf
      refine x_iconst C dX12_at_55 56 rfl (-1) (by decide) ?_
      exact x_iret C (hE _ (Option.some.inj hf).symm) dX12_at_56
    · have hf := (if_neg hc).symm.trans hf
      refine x_aload_n C dX12_at_43 44 rfl 0 rfl rfl ?_
      refine x_iload_n C dX12_at_44 45 rfl 1 rfl rfl ?_
      obtain ⟨o45, ho45, hf⟩ := x_bind hf
      obtain ⟨w45, hw45, hf⟩ := x_bind hf
      refine x_callVl C dX12_at_45 48 rfl ho45 cl11.1 rfl (cX12_wordAtc hw45) kX12_wordAt kvX12_wordAt w1845 ⟨rfl, rfl⟩ ⟨Nat.le_of_ble_eq_true rfl, Nat.le_of_ble_eq_true rfl⟩ ⟨Nat.zero_le _, Nat.zero_le _⟩ rfl rfl (Nat.le_of_ble_eq_true rfl) ?_
      refine x_iload_n C dX12_at_48 49 rfl 2 rfl rfl ?_
      obtain ⟨w49, hw49, hf⟩ := x_bind hf
      refine x_callSi C dX12_at_49 52 rfl (cX12_letterAtc hw49) kX12_letterAt ksX12_letterAt w1722 ⟨rfl, rfl⟩ ⟨Nat.le_of_ble_eq_true rfl, Nat.le_of_ble_eq_true rfl⟩ ⟨Nat.zero_le _, Nat.zero_le _⟩ rfl rfl (Nat.le_of_ble_eq_true rfl) ?_
      refine x_goto C dX12_at_52 56 (by decide) ?_
      exact x_iret C (hE _ (Option.some.inj hf).symm) dX12_at_56
  · have hf := (if_pos hc).symm.trans hf
    refine x_iconst C dX12_at_29 30 rfl 0 (by decide) ?_
    exact x_iret C (hE _ (Option.some.inj hf).symm) dX12_at_30
noncomputable def fJX12_at_m_21 (σ : St) (x0 : Nat) (x1 : Int32) (x2 : Int32) (t0 : Nat) : Option ((Int32 × St)) :=
fJX12_at_m_22 σ x0 x1 x2 0 t0
set_option maxHeartbeats 4000000 in
set_option maxRecDepth 100000 in
theorem jnX12_at_m_21 {X : xX} {σ : St} {x0 : Nat} {x1 : Int32} {x2 : Int32} {t0 : Nat}  {c : (Int32 × St)} (C : Ok X cX12_at 3 RX12 rmX12_at (some .int)) (hf : fJX12_at_m_21 σ x0 x1 x2 t0 = some c) (hE : ∀ r, c = r → xE1 X (some (.int r.1)) r.2) : V X (0, 0) σ 21 [(0, .ref (x0)), (1, .int (x1)), (2, .int (x2))] [.ref (t0)] := by
  unfold fJX12_at_m_21 at hf
  refine x_iconst C dX12_at_21 22 rfl 0 (by decide) ?_
  exact jnX12_at_m_22 C hf hE
noncomputable def fX12_at (σ : St) (x0 : Nat) (x1 : Int32) (x2 : Int32) : Option ((Int32 × St)) :=
(wrF σ x0 11 0 (.int (0))).bind fun σ2 =>
(fX12_isPlace x1).bind fun w7 =>
if w7 = 0 then
(fJX12_at_m_21 σ2 x0 x1 x2 x0)
else
(if x2 < 0 then
(fJX12_at_m_21 σ2 x0 x1 x2 x0)
else
(fJX12_at_m_22 σ2 x0 x1 x2 1 x0))
set_option maxHeartbeats 4000000 in
set_option maxRecDepth 100000 in
theorem cX12_atc {l : Launch} {G : xG} {A : Nat → Prop} {σ : St} {x0 : Nat} {x1 : Int32} {x2 : Int32} {c : (Int32 × St)} (hf : fX12_at σ x0 x1 x2 = some c) : Con l yX12_at (xws yX12_at cX12_at 3 (some .int)) rmX12_at [.ref (x0), .int (x1), .int (x2)] G A σ (some (.int c.1)) c.2 := by
  refine x_start rfl (Nat.le_of_ble_eq_true rfl) (fun X _ _ _ C hE0 => ?_)
  have hE : ∀ r, c = r → xE1 X (some (.int r.1)) r.2 := fun r e => e ▸ hE0
  show V X (0, 0) σ 0 [(0, .ref (x0)), (1, .int (x1)), (2, .int (x2))] []
  unfold fX12_at at hf
  refine x_aload_n C dX12_at_0 1 rfl 0 rfl rfl ?_
  refine x_iconst C dX12_at_1 2 rfl 0 (by decide) ?_
  obtain ⟨σ2, hσ2, hf⟩ := x_bind hf
  refine x_putX C dX12_at_2 5 rfl hσ2 cl11 rfl w1443 rfl rfl rfl ?_
  refine x_aload_n C dX12_at_5 6 rfl 0 rfl rfl ?_
  refine x_iload_n C dX12_at_6 7 rfl 1 rfl rfl ?_
  obtain ⟨w7, hw7, hf⟩ := x_bind hf
  refine x_callSi C dX12_at_7 10 rfl (cX12_isPlacec hw7) kX12_isPlace ksX12_isPlace w1942 ⟨rfl, rfl⟩ ⟨Nat.le_of_ble_eq_true rfl, Nat.le_of_ble_eq_true rfl⟩ ⟨Nat.zero_le _, Nat.zero_le _⟩ rfl rfl (Nat.le_of_ble_eq_true rfl) ?_
  refine x_if_eq C dX12_at_10 21 (by decide) 13 rfl (fun hc => ?_) (fun hc => ?_)
  · have hf := (if_pos hc).symm.trans hf
    exact jnX12_at_m_21 C hf hE
  · have hf := (if_neg hc).symm.trans hf
    refine x_iload_n C dX12_at_13 14 rfl 2 rfl rfl ?_
    refine x_if_lt C dX12_at_14 21 (by decide) 17 rfl (fun hc => ?_) (fun hc => ?_)
    · have hf := (if_pos hc).symm.trans hf
      exact jnX12_at_m_21 C hf hE
    · have hf := (if_neg hc).symm.trans hf
      refine x_iconst C dX12_at_17 18 rfl 1 (by decide) ?_
      refine x_goto C dX12_at_18 22 (by decide) ?_
      exact jnX12_at_m_22 C hf hE
