/-! methods: X12_closes X12_overlapped X12_overlaps X12_addsRule X12_isNamed -/
theorem dX12_closes_0 : decode cX12_closes 0 = .ok (.aload_n 0, 1) := by decide +kernel
theorem dX12_closes_1 : decode cX12_closes 1 = .ok (.aload_n 0, 1) := by decide +kernel
theorem dX12_closes_2 : decode cX12_closes 2 = .ok (.aload_n 0, 1) := by decide +kernel
theorem dX12_closes_3 : decode cX12_closes 3 = .ok (.getfield 360, 3) := by decide +kernel
theorem dX12_closes_6 : decode cX12_closes 6 = .ok (.iconst 0, 1) := by decide +kernel
theorem dX12_closes_7 : decode cX12_closes 7 = .ok (.aload_n 0, 1) := by decide +kernel
theorem dX12_closes_8 : decode cX12_closes 8 = .ok (.aload_n 0, 1) := by decide +kernel
theorem dX12_closes_9 : decode cX12_closes 9 = .ok (.getfield 351, 3) := by decide +kernel
theorem dX12_closes_12 : decode cX12_closes 12 = .ok (.invokevirtual 285, 3) := by decide +kernel
theorem dX12_closes_15 : decode cX12_closes 15 = .ok (.aload_n 0, 1) := by decide +kernel
theorem dX12_closes_16 : decode cX12_closes 16 = .ok (.aload_n 0, 1) := by decide +kernel
theorem dX12_closes_17 : decode cX12_closes 17 = .ok (.getfield 351, 3) := by decide +kernel
theorem dX12_closes_20 : decode cX12_closes 20 = .ok (.invokevirtual 288, 3) := by decide +kernel
theorem dX12_closes_23 : decode cX12_closes 23 = .ok (.invokestatic 291, 3) := by decide +kernel
theorem dX12_closes_26 : decode cX12_closes 26 = .ok (.iconst 0, 1) := by decide +kernel
theorem dX12_closes_27 : decode cX12_closes 27 = .ok (.invokevirtual 363, 3) := by decide +kernel
theorem dX12_closes_30 : decode cX12_closes 30 = .ok (.putfield 367, 3) := by decide +kernel
theorem dX12_closes_33 : decode cX12_closes 33 = .ok (.aload_n 0, 1) := by decide +kernel
theorem dX12_closes_34 : decode cX12_closes 34 = .ok (.aload_n 0, 1) := by decide +kernel
theorem dX12_closes_35 : decode cX12_closes 35 = .ok (.aload_n 0, 1) := by decide +kernel
theorem dX12_closes_36 : decode cX12_closes 36 = .ok (.getfield 360, 3) := by decide +kernel
theorem dX12_closes_39 : decode cX12_closes 39 = .ok (.aload_n 0, 1) := by decide +kernel
theorem dX12_closes_40 : decode cX12_closes 40 = .ok (.getfield 357, 3) := by decide +kernel
theorem dX12_closes_43 : decode cX12_closes 43 = .ok (.aload_n 0, 1) := by decide +kernel
theorem dX12_closes_44 : decode cX12_closes 44 = .ok (.aload_n 0, 1) := by decide +kernel
theorem dX12_closes_45 : decode cX12_closes 45 = .ok (.getfield 354, 3) := by decide +kernel
theorem dX12_closes_48 : decode cX12_closes 48 = .ok (.invokevirtual 285, 3) := by decide +kernel
theorem dX12_closes_51 : decode cX12_closes 51 = .ok (.aload_n 0, 1) := by decide +kernel
theorem dX12_closes_52 : decode cX12_closes 52 = .ok (.aload_n 0, 1) := by decide +kernel
theorem dX12_closes_53 : decode cX12_closes 53 = .ok (.getfield 354, 3) := by decide +kernel
theorem dX12_closes_56 : decode cX12_closes 56 = .ok (.invokevirtual 288, 3) := by decide +kernel
theorem dX12_closes_59 : decode cX12_closes 59 = .ok (.invokestatic 291, 3) := by decide +kernel
theorem dX12_closes_62 : decode cX12_closes 62 = .ok (.iconst 0, 1) := by decide +kernel
theorem dX12_closes_63 : decode cX12_closes 63 = .ok (.invokevirtual 363, 3) := by decide +kernel
theorem dX12_closes_66 : decode cX12_closes 66 = .ok (.putfield 370, 3) := by decide +kernel
theorem dX12_closes_69 : decode cX12_closes 69 = .ok (.aload_n 0, 1) := by decide +kernel
theorem dX12_closes_70 : decode cX12_closes 70 = .ok (.getfield 367, 3) := by decide +kernel
theorem dX12_closes_73 : decode cX12_closes 73 = .ok (.aload_n 0, 1) := by decide +kernel
theorem dX12_closes_74 : decode cX12_closes 74 = .ok (.getfield 370, 3) := by decide +kernel
theorem dX12_closes_77 : decode cX12_closes 77 = .ok (.lcmp, 1) := by decide +kernel
theorem dX12_closes_78 : decode cX12_closes 78 = .ok (.ifCond .ne 7, 3) := by decide +kernel
theorem dX12_closes_81 : decode cX12_closes 81 = .ok (.iconst 1, 1) := by decide +kernel
theorem dX12_closes_82 : decode cX12_closes 82 = .ok (.goto 4, 3) := by decide +kernel
theorem dX12_closes_85 : decode cX12_closes 85 = .ok (.iconst 0, 1) := by decide +kernel
theorem dX12_closes_86 : decode cX12_closes 86 = .ok (.ireturn, 1) := by decide +kernel
abbrev rmX12_closes : Room := { frames := 8, cells := 0, slots := 0, locals := 204 }
noncomputable def fX12_closes (σ : St) (x0 : Nat) : Option ((Int32 × St)) :=
(gL σ x0 11 31).bind fun v3 =>
(gI σ x0 11 28).bind fun v9 =>
(isO σ x0 11).bind fun _ =>
(fX12_leftOf σ x0 v9).bind fun w12 =>
(gI σ x0 11 28).bind fun v17 =>
(isO σ x0 11).bind fun _ =>
(fX12_rightOf σ x0 v17).bind fun w20 =>
(fX12_made v3 0 w12 w20).bind fun w23 =>
(isO σ x0 11).bind fun _ =>
(fX12_runs σ x0 w23 0).bind fun w27 =>
(wrF w27.2 x0 11 33 (.long (w27.1))).bind fun σ30 =>
(gL σ30 x0 11 31).bind fun v36 =>
(gI σ30 x0 11 30).bind fun v40 =>
(gI σ30 x0 11 29).bind fun v45 =>
(isO σ30 x0 11).bind fun _ =>
(fX12_leftOf σ30 x0 v45).bind fun w48 =>
(gI σ30 x0 11 29).bind fun v53 =>
(isO σ30 x0 11).bind fun _ =>
(fX12_rightOf σ30 x0 v53).bind fun w56 =>
(fX12_made v36 v40 w48 w56).bind fun w59 =>
(isO σ30 x0 11).bind fun _ =>
(fX12_runs σ30 x0 w59 0).bind fun w63 =>
(wrF w63.2 x0 11 34 (.long (w63.1))).bind fun σ66 =>
(gL σ66 x0 11 33).bind fun v70 =>
(gL σ66 x0 11 34).bind fun v74 =>
if (lg_cmp v70 v74) = 0 then
(some (1, σ66))
else
(some (0, σ66))
set_option maxHeartbeats 4000000 in
set_option maxRecDepth 100000 in
theorem cX12_closesc {l : Launch} {G : xG} {A : Nat → Prop} {σ : St} {x0 : Nat} {c : (Int32 × St)} (hf : fX12_closes σ x0 = some c) : Con l yX12_closes (xws yX12_closes cX12_closes 1 (some .boolean)) rmX12_closes [.ref (x0)] G A σ (some (.int c.1)) c.2 := by
  refine x_start rfl (Nat.le_of_ble_eq_true rfl) (fun X _ _ _ C hE0 => ?_)
  have hE : ∀ r, c = r → xE1 X (some (.int r.1)) r.2 := fun r e => e ▸ hE0
  show V X (0, 0) σ 0 [(0, .ref (x0))] []
  unfold fX12_closes at hf
  refine x_aload_n C dX12_closes_0 1 rfl 0 rfl rfl ?_
  refine x_aload_n C dX12_closes_1 2 rfl 0 rfl rfl ?_
  refine x_aload_n C dX12_closes_2 3 rfl 0 rfl rfl ?_
  obtain ⟨v3, hv3, hf⟩ := x_bind hf
  refine x_getL C dX12_closes_3 6 rfl hv3 cl11 rfl w1474 ?_
  refine x_iconst C dX12_closes_6 7 rfl 0 (by decide) ?_
  refine x_aload_n C dX12_closes_7 8 rfl 0 rfl rfl ?_
  refine x_aload_n C dX12_closes_8 9 rfl 0 rfl rfl ?_
  obtain ⟨v9, hv9, hf⟩ := x_bind hf
  refine x_getI C dX12_closes_9 12 rfl hv9 cl11 rfl w1471 ?_
  obtain ⟨o12, ho12, hf⟩ := x_bind hf
  obtain ⟨w12, hw12, hf⟩ := x_bind hf
  refine x_callVl C dX12_closes_12 15 rfl ho12 cl11.1 rfl (cX12_leftOfc hw12) kX12_leftOf kvX12_leftOf w1752 ⟨rfl, rfl⟩ ⟨Nat.le_of_ble_eq_true rfl, Nat.le_of_ble_eq_true rfl⟩ ⟨Nat.zero_le _, Nat.zero_le _⟩ rfl rfl (Nat.le_of_ble_eq_true rfl) ?_
  refine x_aload_n C dX12_closes_15 16 rfl 0 rfl rfl ?_
  refine x_aload_n C dX12_closes_16 17 rfl 0 rfl rfl ?_
  obtain ⟨v17, hv17, hf⟩ := x_bind hf
  refine x_getI C dX12_closes_17 20 rfl hv17 cl11 rfl w1471 ?_
  obtain ⟨o20, ho20, hf⟩ := x_bind hf
  obtain ⟨w20, hw20, hf⟩ := x_bind hf
  refine x_callVl C dX12_closes_20 23 rfl ho20 cl11.1 rfl (cX12_rightOfc hw20) kX12_rightOf kvX12_rightOf w1756 ⟨rfl, rfl⟩ ⟨Nat.le_of_ble_eq_true rfl, Nat.le_of_ble_eq_true rfl⟩ ⟨Nat.zero_le _, Nat.zero_le _⟩ rfl rfl (Nat.le_of_ble_eq_true rfl) ?_
  obtain ⟨w23, hw23, hf⟩ := x_bind hf
  refine x_callSl C dX12_closes_23 26 rfl (cX12_madec hw23) kX12_made ksX12_made w1792 ⟨rfl, rfl⟩ ⟨Nat.le_of_ble_eq_true rfl, Nat.le_of_ble_eq_true rfl⟩ ⟨Nat.zero_le _, Nat.zero_le _⟩ rfl rfl (Nat.le_of_ble_eq_true rfl) ?_
  refine x_iconst C dX12_closes_26 27 rfl 0 (by decide) ?_
  obtain ⟨o27, ho27, hf⟩ := x_bind hf
  obtain ⟨w27, hw27, hf⟩ := x_bind hf
  refine x_callVl C dX12_closes_27 30 rfl ho27 cl11.1 rfl (cX12_runsc hw27) kX12_runs kvX12_runs w1802 ⟨rfl, rfl⟩ ⟨Nat.le_of_ble_eq_true rfl, Nat.le_of_ble_eq_true rfl⟩ ⟨Nat.zero_le _, Nat.zero_le _⟩ rfl rfl (Nat.le_of_ble_eq_true rfl) ?_
  obtain ⟨σ30, hσ30, hf⟩ := x_bind hf
  refine x_putX C dX12_closes_30 33 rfl hσ30 cl11 rfl w1476 rfl rfl rfl ?_
  refine x_aload_n C dX12_closes_33 34 rfl 0 rfl rfl ?_
  refine x_aload_n C dX12_closes_34 35 rfl 0 rfl rfl ?_
  refine x_aload_n C dX12_closes_35 36 rfl 0 rfl rfl ?_
  obtain ⟨v36, hv36, hf⟩ := x_bind hf
  refine x_getL C dX12_closes_36 39 rfl hv36 cl11 rfl w1474 ?_
  refine x_aload_n C dX12_closes_39 40 rfl 0 rfl rfl ?_
  obtain ⟨v40, hv40, hf⟩ := x_bind hf
  refine x_getI C dX12_closes_40 43 rfl hv40 cl11 rfl w1473 ?_
  refine x_aload_n C dX12_closes_43 44 rfl 0 rfl rfl ?_
  refine x_aload_n C dX12_closes_44 45 rfl 0 rfl rfl ?_
  obtain ⟨v45, hv45, hf⟩ := x_bind hf
  refine x_getI C dX12_closes_45 48 rfl hv45 cl11 rfl w1472 ?_
  obtain ⟨o48, ho48, hf⟩ := x_bind hf
  obtain ⟨w48, hw48, hf⟩ := x_bind hf
  refine x_callVl C dX12_closes_48 51 rfl ho48 cl11.1 rfl (cX12_leftOfc hw48) kX12_leftOf kvX12_leftOf w1752 ⟨rfl, rfl⟩ ⟨Nat.le_of_ble_eq_true rfl, Nat.le_of_ble_eq_true rfl⟩ ⟨Nat.zero_le _, Nat.zero_le _⟩ rfl rfl (Nat.le_of_ble_eq_true rfl) ?_
  refine x_aload_n C dX12_closes_51 52 rfl 0 rfl rfl ?_
  refine x_aload_n C dX12_closes_52 53 rfl 0 rfl rfl ?_
  obtain ⟨v53, hv53, hf⟩ := x_bind hf
  refine x_getI C dX12_closes_53 56 rfl hv53 cl11 rfl w1472 ?_
  obtain ⟨o56, ho56, hf⟩ := x_bind hf
  obtain ⟨w56, hw56, hf⟩ := x_bind hf
  refine x_callVl C dX12_closes_56 59 rfl ho56 cl11.1 rfl (cX12_rightOfc hw56) kX12_rightOf kvX12_rightOf w1756 ⟨rfl, rfl⟩ ⟨Nat.le_of_ble_eq_true rfl, Nat.le_of_ble_eq_true rfl⟩ ⟨Nat.zero_le _, Nat.zero_le _⟩ rfl rfl (Nat.le_of_ble_eq_true rfl) ?_
  obtain ⟨w59, hw59, hf⟩ := x_bind hf
  refine x_callSl C dX12_closes_59 62 rfl (cX12_madec hw59) kX12_made ksX12_made w1792 ⟨rfl, rfl⟩ ⟨Nat.le_of_ble_eq_true rfl, Nat.le_of_ble_eq_true rfl⟩ ⟨Nat.zero_le _, Nat.zero_le _⟩ rfl rfl (Nat.le_of_ble_eq_true rfl) ?_
  refine x_iconst C dX12_closes_62 63 rfl 0 (by decide) ?_
  obtain ⟨o63, ho63, hf⟩ := x_bind hf
  obtain ⟨w63, hw63, hf⟩ := x_bind hf
  refine x_callVl C dX12_closes_63 66 rfl ho63 cl11.1 rfl (cX12_runsc hw63) kX12_runs kvX12_runs w1802 ⟨rfl, rfl⟩ ⟨Nat.le_of_ble_eq_true rfl, Nat.le_of_ble_eq_true rfl⟩ ⟨Nat.zero_le _, Nat.zero_le _⟩ rfl rfl (Nat.le_of_ble_eq_true rfl) ?_
  obtain ⟨σ66, hσ66, hf⟩ := x_bind hf
  refine x_putX C dX12_closes_66 69 rfl hσ66 cl11 rfl w1477 rfl rfl rfl ?_
  refine x_aload_n C dX12_closes_69 70 rfl 0 rfl rfl ?_
  obtain ⟨v70, hv70, hf⟩ := x_bind hf
  refine x_getL C dX12_closes_70 73 rfl hv70 cl11 rfl w1476 ?_
  refine x_aload_n C dX12_closes_73 74 rfl 0 rfl rfl ?_
  obtain ⟨v74, hv74, hf⟩ := x_bind hf
  refine x_getL C dX12_closes_74 77 rfl hv74 cl11 rfl w1477 ?_
  refine x_lcmp C dX12_closes_77 78 rfl ?_
  refine x_if_ne C dX12_closes_78 85 (by decide) 81 rfl (fun hc => ?_) (fun hc => ?_)
  · have hf := (if_neg hc).symm.trans hf
    refine x_iconst C dX12_closes_85 86 rfl 0 (by decide) ?_
    exact x_zret C rfl (hE _ (Option.some.inj hf).symm) dX12_closes_86
  · have hf := (if_pos hc).symm.trans hf
    refine x_iconst C dX12_closes_81 82 rfl 1 (by decide) ?_
    refine x_goto C dX12_closes_82 86 (by decide) ?_
    exact x_zret C rfl (hE _ (Option.some.inj hf).symm) dX12_closes_86
theorem dX12_overlapped_0 : decode cX12_overlapped 0 = .ok (.aload_n 0, 1) := by decide +kernel
theorem dX12_overlapped_1 : decode cX12_overlapped 1 = .ok (.iload_n 1, 1) := by decide +kernel
theorem dX12_overlapped_2 : decode cX12_overlapped 2 = .ok (.invokevirtual 285, 3) := by decide +kernel
theorem dX12_overlapped_5 : decode cX12_overlapped 5 = .ok (.lstore 4, 2) := by decide +kernel
theorem dX12_overlapped_7 : decode cX12_overlapped 7 = .ok (.aload_n 0, 1) := by decide +kernel
theorem dX12_overlapped_8 : decode cX12_overlapped 8 = .ok (.iload_n 2, 1) := by decide +kernel
theorem dX12_overlapped_9 : decode cX12_overlapped 9 = .ok (.invokevirtual 285, 3) := by decide +kernel
theorem dX12_overlapped_12 : decode cX12_overlapped 12 = .ok (.lstore 6, 2) := by decide +kernel
theorem dX12_overlapped_14 : decode cX12_overlapped 14 = .ok (.lload 4, 2) := by decide +kernel
theorem dX12_overlapped_16 : decode cX12_overlapped 16 = .ok (.invokestatic 136, 3) := by decide +kernel
theorem dX12_overlapped_19 : decode cX12_overlapped 19 = .ok (.iload_n 3, 1) := by decide +kernel
theorem dX12_overlapped_20 : decode cX12_overlapped 20 = .ok (.isub, 1) := by decide +kernel
theorem dX12_overlapped_21 : decode cX12_overlapped 21 = .ok (.lload 6, 2) := by decide +kernel
theorem dX12_overlapped_23 : decode cX12_overlapped 23 = .ok (.invokestatic 136, 3) := by decide +kernel
theorem dX12_overlapped_26 : decode cX12_overlapped 26 = .ok (.invokestatic 155, 3) := by decide +kernel
theorem dX12_overlapped_29 : decode cX12_overlapped 29 = .ok (.istore 8, 2) := by decide +kernel
theorem dX12_overlapped_31 : decode cX12_overlapped 31 = .ok (.lload 4, 2) := by decide +kernel
theorem dX12_overlapped_33 : decode cX12_overlapped 33 = .ok (.iload_n 3, 1) := by decide +kernel
theorem dX12_overlapped_34 : decode cX12_overlapped 34 = .ok (.iload 8, 2) := by decide +kernel
theorem dX12_overlapped_36 : decode cX12_overlapped 36 = .ok (.invokestatic 144, 3) := by decide +kernel
theorem dX12_overlapped_39 : decode cX12_overlapped 39 = .ok (.lload 6, 2) := by decide +kernel
theorem dX12_overlapped_41 : decode cX12_overlapped 41 = .ok (.iconst 0, 1) := by decide +kernel
theorem dX12_overlapped_42 : decode cX12_overlapped 42 = .ok (.iload 8, 2) := by decide +kernel
theorem dX12_overlapped_44 : decode cX12_overlapped 44 = .ok (.invokestatic 144, 3) := by decide +kernel
theorem dX12_overlapped_47 : decode cX12_overlapped 47 = .ok (.lcmp, 1) := by decide +kernel
theorem dX12_overlapped_48 : decode cX12_overlapped 48 = .ok (.ifCond .eq 7, 3) := by decide +kernel
theorem dX12_overlapped_51 : decode cX12_overlapped 51 = .ok (.ldc2_w 276, 3) := by decide +kernel
theorem dX12_overlapped_54 : decode cX12_overlapped 54 = .ok (.lreturn, 1) := by decide +kernel
theorem dX12_overlapped_55 : decode cX12_overlapped 55 = .ok (.lload 6, 2) := by decide +kernel
theorem dX12_overlapped_57 : decode cX12_overlapped 57 = .ok (.invokestatic 136, 3) := by decide +kernel
theorem dX12_overlapped_60 : decode cX12_overlapped 60 = .ok (.iload 8, 2) := by decide +kernel
theorem dX12_overlapped_62 : decode cX12_overlapped 62 = .ok (.isub, 1) := by decide +kernel
theorem dX12_overlapped_63 : decode cX12_overlapped 63 = .ok (.istore 9, 2) := by decide +kernel
theorem dX12_overlapped_65 : decode cX12_overlapped 65 = .ok (.lload 4, 2) := by decide +kernel
theorem dX12_overlapped_67 : decode cX12_overlapped 67 = .ok (.invokestatic 136, 3) := by decide +kernel
theorem dX12_overlapped_70 : decode cX12_overlapped 70 = .ok (.iload 9, 2) := by decide +kernel
theorem dX12_overlapped_72 : decode cX12_overlapped 72 = .ok (.iadd, 1) := by decide +kernel
theorem dX12_overlapped_73 : decode cX12_overlapped 73 = .ok (.bipush 16, 2) := by decide +kernel
theorem dX12_overlapped_75 : decode cX12_overlapped 75 = .ok (.if_icmp .le 7, 3) := by decide +kernel
theorem dX12_overlapped_78 : decode cX12_overlapped 78 = .ok (.ldc2_w 276, 3) := by decide +kernel
theorem dX12_overlapped_81 : decode cX12_overlapped 81 = .ok (.lreturn, 1) := by decide +kernel
theorem dX12_overlapped_82 : decode cX12_overlapped 82 = .ok (.lload 4, 2) := by decide +kernel
theorem dX12_overlapped_84 : decode cX12_overlapped 84 = .ok (.lload 6, 2) := by decide +kernel
theorem dX12_overlapped_86 : decode cX12_overlapped 86 = .ok (.iload 8, 2) := by decide +kernel
theorem dX12_overlapped_88 : decode cX12_overlapped 88 = .ok (.iload 9, 2) := by decide +kernel
theorem dX12_overlapped_90 : decode cX12_overlapped 90 = .ok (.invokestatic 144, 3) := by decide +kernel
theorem dX12_overlapped_93 : decode cX12_overlapped 93 = .ok (.invokestatic 148, 3) := by decide +kernel
theorem dX12_overlapped_96 : decode cX12_overlapped 96 = .ok (.lstore 10, 2) := by decide +kernel
theorem dX12_overlapped_98 : decode cX12_overlapped 98 = .ok (.lload 10, 2) := by decide +kernel
theorem dX12_overlapped_100 : decode cX12_overlapped 100 = .ok (.iconst 0, 1) := by decide +kernel
theorem dX12_overlapped_101 : decode cX12_overlapped 101 = .ok (.lload 4, 2) := by decide +kernel
theorem dX12_overlapped_103 : decode cX12_overlapped 103 = .ok (.aload_n 0, 1) := by decide +kernel
theorem dX12_overlapped_104 : decode cX12_overlapped 104 = .ok (.iload_n 1, 1) := by decide +kernel
theorem dX12_overlapped_105 : decode cX12_overlapped 105 = .ok (.invokevirtual 288, 3) := by decide +kernel
theorem dX12_overlapped_108 : decode cX12_overlapped 108 = .ok (.invokestatic 291, 3) := by decide +kernel
theorem dX12_overlapped_111 : decode cX12_overlapped 111 = .ok (.ldc2_w 276, 3) := by decide +kernel
theorem dX12_overlapped_114 : decode cX12_overlapped 114 = .ok (.lcmp, 1) := by decide +kernel
theorem dX12_overlapped_115 : decode cX12_overlapped 115 = .ok (.ifCond .eq 23, 3) := by decide +kernel
theorem dX12_overlapped_118 : decode cX12_overlapped 118 = .ok (.lload 10, 2) := by decide +kernel
theorem dX12_overlapped_120 : decode cX12_overlapped 120 = .ok (.iload_n 3, 1) := by decide +kernel
theorem dX12_overlapped_121 : decode cX12_overlapped 121 = .ok (.lload 6, 2) := by decide +kernel
theorem dX12_overlapped_123 : decode cX12_overlapped 123 = .ok (.aload_n 0, 1) := by decide +kernel
theorem dX12_overlapped_124 : decode cX12_overlapped 124 = .ok (.iload_n 2, 1) := by decide +kernel
theorem dX12_overlapped_125 : decode cX12_overlapped 125 = .ok (.invokevirtual 288, 3) := by decide +kernel
theorem dX12_overlapped_128 : decode cX12_overlapped 128 = .ok (.invokestatic 291, 3) := by decide +kernel
theorem dX12_overlapped_131 : decode cX12_overlapped 131 = .ok (.ldc2_w 276, 3) := by decide +kernel
theorem dX12_overlapped_134 : decode cX12_overlapped 134 = .ok (.lcmp, 1) := by decide +kernel
theorem dX12_overlapped_135 : decode cX12_overlapped 135 = .ok (.ifCond .ne 9, 3) := by decide +kernel
theorem dX12_overlapped_138 : decode cX12_overlapped 138 = .ok (.ldc2_w 276, 3) := by decide +kernel
theorem dX12_overlapped_141 : decode cX12_overlapped 141 = .ok (.goto 5, 3) := by decide +kernel
theorem dX12_overlapped_144 : decode cX12_overlapped 144 = .ok (.lload 10, 2) := by decide +kernel
theorem dX12_overlapped_146 : decode cX12_overlapped 146 = .ok (.lreturn, 1) := by decide +kernel
abbrev rmX12_overlapped : Room := { frames := 4, cells := 0, slots := 0, locals := 101 }
noncomputable def fX12_overlapped (σ : St) (x0 : Nat) (x1 : Int32) (x2 : Int32) (x3 : Int32) : Option (Int64) :=
(isO σ x0 11).bind fun _ =>
(fX12_leftOf σ x0 x1).bind fun w2 =>
(isO σ x0 11).bind fun _ =>
(fX12_leftOf σ x0 x2).bind fun w9 =>
(fX12_length w2).bind fun w16 =>
(fX12_length w9).bind fun w23 =>
xlet (imin (w16 - x3) w23) fun v29 =>
(fX12_part w2 x3 v29).bind fun w36 =>
(fX12_part w9 0 v29).bind fun w44 =>
if (lg_cmp w36 w44) = 0 then
((fX12_length w9).bind fun w57 =>
xlet (w57 - v29) fun v63 =>
(fX12_length w2).bind fun w67 =>
if (w67 + v63) ≤ ((16 : Int32)) then
((fX12_part w9 v29 v63).bind fun w90 =>
(fX12_joined w2 w90).bind fun w93 =>
(isO σ x0 11).bind fun _ =>
(fX12_rightOf σ x0 x1).bind fun w105 =>
(fX12_made w93 0 w2 w105).bind fun w108 =>
if (lg_cmp w108 (-1)) = 0 then
(some (-1))
else
((isO σ x0 11).bind fun _ =>
(fX12_rightOf σ x0 x2).bind fun w125 =>
(fX12_made w93 x3 w9 w125).bind fun w128 =>
if (lg_cmp w128 (-1)) = 0 then
(some (-1))
else
(some w93)))
else
(some (-1)))
else
(some (-1))
set_option maxHeartbeats 4000000 in
set_option maxRecDepth 100000 in
theorem cX12_overlappedc {l : Launch} {G : xG} {A : Nat → Prop} {σ : St} {x0 : Nat} {x1 : Int32} {x2 : Int32} {x3 : Int32} {c : Int64} (hf : fX12_overlapped σ x0 x1 x2 x3 = some c) : Con l yX12_overlapped (xws yX12_overlapped cX12_overlapped 12 (some .long)) rmX12_overlapped [.ref (x0), .int (x1), .int (x2), .int (x3)] G A σ (some (.long c)) σ := by
  refine x_start rfl (Nat.le_of_ble_eq_true rfl) (fun X _ _ _ C hE0 => ?_)
  have hE : ∀ r, c = r → xE1 X (some (.long r)) σ := fun r e => e ▸ hE0
  show V X (0, 0) σ 0 [(0, .ref (x0)), (1, .int (x1)), (2, .int (x2)), (3, .int (x3))] []
  unfold fX12_overlapped at hf
  refine x_aload_n C dX12_overlapped_0 1 rfl 0 rfl rfl ?_
  refine x_iload_n C dX12_overlapped_1 2 rfl 1 rfl rfl ?_
  obtain ⟨o2, ho2, hf⟩ := x_bind hf
  obtain ⟨w2, hw2, hf⟩ := x_bind hf
  refine x_callVl C dX12_overlapped_2 5 rfl ho2 cl11.1 rfl (cX12_leftOfc hw2) kX12_leftOf kvX12_leftOf w1752 ⟨rfl, rfl⟩ ⟨Nat.le_of_ble_eq_true rfl, Nat.le_of_ble_eq_true rfl⟩ ⟨Nat.zero_le _, Nat.zero_le _⟩ rfl rfl (Nat.le_of_ble_eq_true rfl) ?_
  refine x_lstore C dX12_overlapped_5 7 rfl rfl [(4, .long (w2)), (0, .ref (x0)), (1, .int (x1)), (2, .int (x2)), (3, .int (x3))] rfl ?_
  refine x_aload_n C dX12_overlapped_7 8 rfl 1 rfl rfl ?_
  refine x_iload_n C dX12_overlapped_8 9 rfl 3 rfl rfl ?_
  obtain ⟨o9, ho9, hf⟩ := x_bind hf
  obtain ⟨w9, hw9, hf⟩ := x_bind hf
  refine x_callVl C dX12_overlapped_9 12 rfl ho9 cl11.1 rfl (cX12_leftOfc hw9) kX12_leftOf kvX12_leftOf w1752 ⟨rfl, rfl⟩ ⟨Nat.le_of_ble_eq_true rfl, Nat.le_of_ble_eq_true rfl⟩ ⟨Nat.zero_le _, Nat.zero_le _⟩ rfl rfl (Nat.le_of_ble_eq_true rfl) ?_
  refine x_lstore C dX12_overlapped_12 14 rfl rfl [(6, .long (w9)), (4, .long (w2)), (0, .ref (x0)), (1, .int (x1)), (2, .int (x2)), (3, .int (x3))] rfl ?_
  refine x_lload C dX12_overlapped_14 16 rfl 1 rfl ?_
  obtain ⟨w16, hw16, hf⟩ := x_bind hf
  refine x_callSi C dX12_overlapped_16 19 rfl (cX12_lengthc hw16) kX12_length ksX12_length w1728 ⟨rfl, rfl⟩ ⟨Nat.le_of_ble_eq_true rfl, Nat.le_of_ble_eq_true rfl⟩ ⟨Nat.zero_le _, Nat.zero_le _⟩ rfl rfl (Nat.le_of_ble_eq_true rfl) ?_
  refine x_iload_n C dX12_overlapped_19 20 rfl 5 rfl rfl ?_
  refine x_isub C dX12_overlapped_20 21 rfl ?_
  refine x_lload C dX12_overlapped_21 23 rfl 0 rfl ?_
  obtain ⟨w23, hw23, hf⟩ := x_bind hf
  refine x_callSi C dX12_overlapped_23 26 rfl (cX12_lengthc hw23) kX12_length ksX12_length w1728 ⟨rfl, rfl⟩ ⟨Nat.le_of_ble_eq_true rfl, Nat.le_of_ble_eq_true rfl⟩ ⟨Nat.zero_le _, Nat.zero_le _⟩ rfl rfl (Nat.le_of_ble_eq_true rfl) ?_
  refine x_mmin C dX12_overlapped_26 29 rfl w1671 mminw ⟨Nat.le_of_ble_eq_true rfl, Nat.le_of_ble_eq_true rfl⟩ ⟨Nat.zero_le _, Nat.zero_le _⟩ ?_
  obtain ⟨v29, ev29, hf⟩ := xlet_some hf
  refine x_topi ev29 ?_
  refine x_istore C dX12_overlapped_29 31 rfl rfl [(8, .int (v29)), (6, .long (w9)), (4, .long (w2)), (0, .ref (x0)), (1, .int (x1)), (2, .int (x2)), (3, .int (x3))] rfl ?_
  refine x_lload C dX12_overlapped_31 33 rfl 2 rfl ?_
  refine x_iload_n C dX12_overlapped_33 34 rfl 6 rfl rfl ?_
  refine x_iload C dX12_overlapped_34 36 rfl 0 rfl ?_
  obtain ⟨w36, hw36, hf⟩ := x_bind hf
  refine x_callSl C dX12_overlapped_36 39 rfl (cX12_partc hw36) kX12_part ksX12_part w1725 ⟨rfl, rfl⟩ ⟨Nat.le_of_ble_eq_true rfl, Nat.le_of_ble_eq_true rfl⟩ ⟨Nat.zero_le _, Nat.zero_le _⟩ rfl rfl (Nat.le_of_ble_eq_true rfl) ?_
  refine x_lload C dX12_overlapped_39 41 rfl 1 rfl ?_
  refine x_iconst C dX12_overlapped_41 42 rfl 0 (by decide) ?_
  refine x_iload C dX12_overlapped_42 44 rfl 0 rfl ?_
  obtain ⟨w44, hw44, hf⟩ := x_bind hf
  refine x_callSl C dX12_overlapped_44 47 rfl (cX12_partc hw44) kX12_part ksX12_part w1725 ⟨rfl, rfl⟩ ⟨Nat.le_of_ble_eq_true rfl, Nat.le_of_ble_eq_true rfl⟩ ⟨Nat.zero_le _, Nat.zero_le _⟩ rfl rfl (Nat.le_of_ble_eq_true rfl) ?_
  refine x_lcmp C dX12_overlapped_47 48 rfl ?_
  refine x_if_eq C dX12_overlapped_48 55 (by decide) 51 rfl (fun hc => ?_) (fun hc => ?_)
  · have hf := (if_pos hc).symm.trans hf
    refine x_lload C dX12_overlapped_55 57 rfl 1 rfl ?_
    obtain ⟨w57, hw57, hf⟩ := x_bind hf
    refine x_callSi C dX12_overlapped_57 60 rfl (cX12_lengthc hw57) kX12_length ksX12_length w1728 ⟨rfl, rfl⟩ ⟨Nat.le_of_ble_eq_true rfl, Nat.le_of_ble_eq_true rfl⟩ ⟨Nat.zero_le _, Nat.zero_le _⟩ rfl rfl (Nat.le_of_ble_eq_true rfl) ?_
    refine x_iload C dX12_overlapped_60 62 rfl 0 rfl ?_
    refine x_isub C dX12_overlapped_62 63 rfl ?_
    obtain ⟨v63, ev63, hf⟩ := xlet_some hf
    refine x_topi ev63 ?_
    refine x_istore C dX12_overlapped_63 65 rfl rfl [(9, .int (v63)), (8, .int (v29)), (6, .long (w9)), (4, .long (w2)), (0, .ref (x0)), (1, .int (x1)), (2, .int (x2)), (3, .int (x3))] rfl ?_
    refine x_lload C dX12_overlapped_65 67 rfl 3 rfl ?_
    obtain ⟨w67, hw67, hf⟩ := x_bind hf
    refine x_callSi C dX12_overlapped_67 70 rfl (cX12_lengthc hw67) kX12_length ksX12_length w1728 ⟨rfl, rfl⟩ ⟨Nat.le_of_ble_eq_true rfl, Nat.le_of_ble_eq_true rfl⟩ ⟨Nat.zero_le _, Nat.zero_le _⟩ rfl rfl (Nat.le_of_ble_eq_true rfl) ?_
    refine x_iload C dX12_overlapped_70 72 rfl 0 rfl ?_
    refine x_iadd C dX12_overlapped_72 73 rfl ?_
    refine x_bipush C dX12_overlapped_73 75 rfl 16 (by decide) ?_
    refine x_icmp_le C dX12_overlapped_75 82 (by decide) 78 rfl (fun hc => ?_) (fun hc => ?_)
    · have hf := (if_pos hc).symm.trans hf
      refine x_lload C dX12_overlapped_82 84 rfl 3 rfl ?_
      refine x_lload C dX12_overlapped_84 86 rfl 2 rfl ?_
      refine x_iload C dX12_overlapped_86 88 rfl 1 rfl ?_
      refine x_iload C dX12_overlapped_88 90 rfl 0 rfl ?_
      obtain ⟨w90, hw90, hf⟩ := x_bind hf
      refine x_callSl C dX12_overlapped_90 93 rfl (cX12_partc hw90) kX12_part ksX12_part w1725 ⟨rfl, rfl⟩ ⟨Nat.le_of_ble_eq_true rfl, Nat.le_of_ble_eq_true rfl⟩ ⟨Nat.zero_le _, Nat.zero_le _⟩ rfl rfl (Nat.le_of_ble_eq_true rfl) ?_
      obtain ⟨w93, hw93, hf⟩ := x_bind hf
      refine x_callSl C dX12_overlapped_93 96 rfl (cX12_joinedc hw93) kX12_joined ksX12_joined w1789 ⟨rfl, rfl⟩ ⟨Nat.le_of_ble_eq_true rfl, Nat.le_of_ble_eq_true rfl⟩ ⟨Nat.zero_le _, Nat.zero_le _⟩ rfl rfl (Nat.le_of_ble_eq_true rfl) ?_
      refine x_lstore C dX12_overlapped_96 98 rfl rfl [(10, .long (w93)), (9, .int (v63)), (8, .int (v29)), (6, .long (w9)), (4, .long (w2)), (0, .ref (x0)), (1, .int (x1)), (2, .int (x2)), (3, .int (x3))] rfl ?_
      refine x_lload C dX12_overlapped_98 100 rfl 0 rfl ?_
      refine x_iconst C dX12_overlapped_100 101 rfl 0 (by decide) ?_
      refine x_lload C dX12_overlapped_101 103 rfl 4 rfl ?_
      refine x_aload_n C dX12_overlapped_103 104 rfl 5 rfl rfl ?_
      refine x_iload_n C dX12_overlapped_104 105 rfl 6 rfl rfl ?_
      obtain ⟨o105, ho105, hf⟩ := x_bind hf
      obtain ⟨w105, hw105, hf⟩ := x_bind hf
      refine x_callVl C dX12_overlapped_105 108 rfl ho105 cl11.1 rfl (cX12_rightOfc hw105) kX12_rightOf kvX12_rightOf w1756 ⟨rfl, rfl⟩ ⟨Nat.le_of_ble_eq_true rfl, Nat.le_of_ble_eq_true rfl⟩ ⟨Nat.zero_le _, Nat.zero_le _⟩ rfl rfl (Nat.le_of_ble_eq_true rfl) ?_
      obtain ⟨w108, hw108, hf⟩ := x_bind hf
      refine x_callSl C dX12_overlapped_108 111 rfl (cX12_madec hw108) kX12_made ksX12_made w1792 ⟨rfl, rfl⟩ ⟨Nat.le_of_ble_eq_true rfl, Nat.le_of_ble_eq_true rfl⟩ ⟨Nat.zero_le _, Nat.zero_le _⟩ rfl rfl (Nat.le_of_ble_eq_true rfl) ?_
      refine x_ldc2 C dX12_overlapped_111 114 rfl w1788 ?_
      refine x_lcmp C dX12_overlapped_114 115 rfl ?_
      refine x_if_eq C dX12_overlapped_115 138 (by decide) 118 rfl (fun hc => ?_) (fun hc => ?_)
      · have hf := (if_pos hc).symm.trans hf
        refine x_ldc2 C dX12_overlapped_138 141 rfl w1788 ?_
        refine x_goto C dX12_overlapped_141 146 (by decide) ?_
        exact x_lret C (hE _ (Option.some.inj hf).symm) dX12_overlapped_146
      · have hf := (if_neg hc).symm.trans hf
        refine x_lload C dX12_overlapped_118 120 rfl 0 rfl ?_
        refine x_iload_n C dX12_overlapped_120 121 rfl 8 rfl rfl ?_
        refine x_lload C dX12_overlapped_121 123 rfl 3 rfl ?_
        refine x_aload_n C dX12_overlapped_123 124 rfl 5 rfl rfl ?_
        refine x_iload_n C dX12_overlapped_124 125 rfl 7 rfl rfl ?_
        obtain ⟨o125, ho125, hf⟩ := x_bind hf
        obtain ⟨w125, hw125, hf⟩ := x_bind hf
        refine x_callVl C dX12_overlapped_125 128 rfl ho125 cl11.1 rfl (cX12_rightOfc hw125) kX12_rightOf kvX12_rightOf w1756 ⟨rfl, rfl⟩ ⟨Nat.le_of_ble_eq_true rfl, Nat.le_of_ble_eq_true rfl⟩ ⟨Nat.zero_le _, Nat.zero_le _⟩ rfl rfl (Nat.le_of_ble_eq_true rfl) ?_
        obtain ⟨w128, hw128, hf⟩ := x_bind hf
        refine x_callSl C dX12_overlapped_128 131 rfl (cX12_madec hw128) kX12_made ksX12_made w1792 ⟨rfl, rfl⟩ ⟨Nat.le_of_ble_eq_true rfl, Nat.le_of_ble_eq_true rfl⟩ ⟨Nat.zero_le _, Nat.zero_le _⟩ rfl rfl (Nat.le_of_ble_eq_true rfl) ?_
        refine x_ldc2 C dX12_overlapped_131 134 rfl w1788 ?_
        refine x_lcmp C dX12_overlapped_134 135 rfl ?_
        refine x_if_ne C dX12_overlapped_135 144 (by decide) 138 rfl (fun hc => ?_) (fun hc => ?_)
        · have hf := (if_neg hc).symm.trans hf
          refine x_lload C dX12_overlapped_144 146 rfl 0 rfl ?_
          exact x_lret C (hE _ (Option.some.inj hf).symm) dX12_overlapped_146
        · have hf := (if_pos hc).symm.trans hf
          refine x_ldc2 C dX12_overlapped_138 141 rfl w1788 ?_
          refine x_goto C dX12_overlapped_141 146 (by decide) ?_
          exact x_lret C (hE _ (Option.some.inj hf).symm) dX12_overlapped_146
    · have hf := (if_neg hc).symm.trans hf
      refine x_ldc2 C dX12_overlapped_78 81 rfl w1788 ?_
      exact x_lret C (hE _ (Option.some.inj hf).symm) dX12_overlapped_81
  · have hf := (if_neg hc).symm.trans hf
    refine x_ldc2 C dX12_overlapped_51 54 rfl w1788 ?_
    exact x_lret C (hE _ (Option.some.inj hf).symm) dX12_overlapped_54
theorem dX12_overlaps_0 : decode cX12_overlaps 0 = .ok (.aload_n 0, 1) := by decide +kernel
theorem dX12_overlaps_1 : decode cX12_overlaps 1 = .ok (.iconst 0, 1) := by decide +kernel
theorem dX12_overlaps_2 : decode cX12_overlaps 2 = .ok (.putfield 344, 3) := by decide +kernel
theorem dX12_overlaps_5 : decode cX12_overlaps 5 = .ok (.iconst 0, 1) := by decide +kernel
theorem dX12_overlaps_6 : decode cX12_overlaps 6 = .ok (.istore_n 2, 1) := by decide +kernel
theorem dX12_overlaps_7 : decode cX12_overlaps 7 = .ok (.iload_n 2, 1) := by decide +kernel
theorem dX12_overlaps_8 : decode cX12_overlaps 8 = .ok (.aload_n 0, 1) := by decide +kernel
theorem dX12_overlaps_9 : decode cX12_overlaps 9 = .ok (.invokevirtual 273, 3) := by decide +kernel
theorem dX12_overlaps_12 : decode cX12_overlaps 12 = .ok (.if_icmp .ge 120, 3) := by decide +kernel
theorem dX12_overlaps_15 : decode cX12_overlaps 15 = .ok (.iconst 0, 1) := by decide +kernel
theorem dX12_overlaps_16 : decode cX12_overlaps 16 = .ok (.istore_n 3, 1) := by decide +kernel
theorem dX12_overlaps_17 : decode cX12_overlaps 17 = .ok (.iload_n 3, 1) := by decide +kernel
theorem dX12_overlaps_18 : decode cX12_overlaps 18 = .ok (.aload_n 0, 1) := by decide +kernel
theorem dX12_overlaps_19 : decode cX12_overlaps 19 = .ok (.invokevirtual 273, 3) := by decide +kernel
theorem dX12_overlaps_22 : decode cX12_overlaps 22 = .ok (.if_icmp .ge 104, 3) := by decide +kernel
theorem dX12_overlaps_25 : decode cX12_overlaps 25 = .ok (.iload_n 2, 1) := by decide +kernel
theorem dX12_overlaps_26 : decode cX12_overlaps 26 = .ok (.iload_n 3, 1) := by decide +kernel
theorem dX12_overlaps_27 : decode cX12_overlaps 27 = .ok (.if_icmp .ge 7, 3) := by decide +kernel
theorem dX12_overlaps_30 : decode cX12_overlaps 30 = .ok (.iconst 0, 1) := by decide +kernel
theorem dX12_overlaps_31 : decode cX12_overlaps 31 = .ok (.goto 4, 3) := by decide +kernel
theorem dX12_overlaps_34 : decode cX12_overlaps 34 = .ok (.iconst 1, 1) := by decide +kernel
theorem dX12_overlaps_35 : decode cX12_overlaps 35 = .ok (.istore 4, 2) := by decide +kernel
theorem dX12_overlaps_37 : decode cX12_overlaps 37 = .ok (.iload 4, 2) := by decide +kernel
theorem dX12_overlaps_39 : decode cX12_overlaps 39 = .ok (.aload_n 0, 1) := by decide +kernel
theorem dX12_overlaps_40 : decode cX12_overlaps 40 = .ok (.iload_n 2, 1) := by decide +kernel
theorem dX12_overlaps_41 : decode cX12_overlaps 41 = .ok (.invokevirtual 285, 3) := by decide +kernel
theorem dX12_overlaps_44 : decode cX12_overlaps 44 = .ok (.invokestatic 136, 3) := by decide +kernel
theorem dX12_overlaps_47 : decode cX12_overlaps 47 = .ok (.if_icmp .ge 73, 3) := by decide +kernel
theorem dX12_overlaps_50 : decode cX12_overlaps 50 = .ok (.aload_n 0, 1) := by decide +kernel
theorem dX12_overlaps_51 : decode cX12_overlaps 51 = .ok (.iload_n 2, 1) := by decide +kernel
theorem dX12_overlaps_52 : decode cX12_overlaps 52 = .ok (.iload_n 3, 1) := by decide +kernel
theorem dX12_overlaps_53 : decode cX12_overlaps 53 = .ok (.iload 4, 2) := by decide +kernel
theorem dX12_overlaps_55 : decode cX12_overlaps 55 = .ok (.invokevirtual 347, 3) := by decide +kernel
theorem dX12_overlaps_58 : decode cX12_overlaps 58 = .ok (.lstore 5, 2) := by decide +kernel
theorem dX12_overlaps_60 : decode cX12_overlaps 60 = .ok (.lload 5, 2) := by decide +kernel
theorem dX12_overlaps_62 : decode cX12_overlaps 62 = .ok (.ldc2_w 276, 3) := by decide +kernel
theorem dX12_overlaps_65 : decode cX12_overlaps 65 = .ok (.lcmp, 1) := by decide +kernel
theorem dX12_overlaps_66 : decode cX12_overlaps 66 = .ok (.ifCond .ne 6, 3) := by decide +kernel
theorem dX12_overlaps_69 : decode cX12_overlaps 69 = .ok (.goto 45, 3) := by decide +kernel
theorem dX12_overlaps_72 : decode cX12_overlaps 72 = .ok (.aload_n 0, 1) := by decide +kernel
theorem dX12_overlaps_73 : decode cX12_overlaps 73 = .ok (.iload_n 2, 1) := by decide +kernel
theorem dX12_overlaps_74 : decode cX12_overlaps 74 = .ok (.putfield 351, 3) := by decide +kernel
theorem dX12_overlaps_77 : decode cX12_overlaps 77 = .ok (.aload_n 0, 1) := by decide +kernel
theorem dX12_overlaps_78 : decode cX12_overlaps 78 = .ok (.iload_n 3, 1) := by decide +kernel
theorem dX12_overlaps_79 : decode cX12_overlaps 79 = .ok (.putfield 354, 3) := by decide +kernel
theorem dX12_overlaps_82 : decode cX12_overlaps 82 = .ok (.aload_n 0, 1) := by decide +kernel
theorem dX12_overlaps_83 : decode cX12_overlaps 83 = .ok (.iload 4, 2) := by decide +kernel
theorem dX12_overlaps_85 : decode cX12_overlaps 85 = .ok (.putfield 357, 3) := by decide +kernel
theorem dX12_overlaps_88 : decode cX12_overlaps 88 = .ok (.aload_n 0, 1) := by decide +kernel
theorem dX12_overlaps_89 : decode cX12_overlaps 89 = .ok (.lload 5, 2) := by decide +kernel
theorem dX12_overlaps_91 : decode cX12_overlaps 91 = .ok (.putfield 360, 3) := by decide +kernel
theorem dX12_overlaps_94 : decode cX12_overlaps 94 = .ok (.aload_n 0, 1) := by decide +kernel
theorem dX12_overlaps_95 : decode cX12_overlaps 95 = .ok (.getfield 344, 3) := by decide +kernel
theorem dX12_overlaps_98 : decode cX12_overlaps 98 = .ok (.iload_n 1, 1) := by decide +kernel
theorem dX12_overlaps_99 : decode cX12_overlaps 99 = .ok (.if_icmp .ne 5, 3) := by decide +kernel
theorem dX12_overlaps_102 : decode cX12_overlaps 102 = .ok (.iconst 1, 1) := by decide +kernel
theorem dX12_overlaps_103 : decode cX12_overlaps 103 = .ok (.ireturn, 1) := by decide +kernel
theorem dX12_overlaps_104 : decode cX12_overlaps 104 = .ok (.aload_n 0, 1) := by decide +kernel
theorem dX12_overlaps_105 : decode cX12_overlaps 105 = .ok (.dup, 1) := by decide +kernel
theorem dX12_overlaps_106 : decode cX12_overlaps 106 = .ok (.getfield 344, 3) := by decide +kernel
theorem dX12_overlaps_109 : decode cX12_overlaps 109 = .ok (.iconst 1, 1) := by decide +kernel
theorem dX12_overlaps_110 : decode cX12_overlaps 110 = .ok (.iadd, 1) := by decide +kernel
theorem dX12_overlaps_111 : decode cX12_overlaps 111 = .ok (.putfield 344, 3) := by decide +kernel
theorem dX12_overlaps_114 : decode cX12_overlaps 114 = .ok (.iinc 4 1, 3) := by decide +kernel
theorem dX12_overlaps_117 : decode cX12_overlaps 117 = .ok (.goto (-80), 3) := by decide +kernel
theorem dX12_overlaps_120 : decode cX12_overlaps 120 = .ok (.iinc 3 1, 3) := by decide +kernel
theorem dX12_overlaps_123 : decode cX12_overlaps 123 = .ok (.goto (-106), 3) := by decide +kernel
theorem dX12_overlaps_126 : decode cX12_overlaps 126 = .ok (.iinc 2 1, 3) := by decide +kernel
theorem dX12_overlaps_129 : decode cX12_overlaps 129 = .ok (.goto (-122), 3) := by decide +kernel
theorem dX12_overlaps_132 : decode cX12_overlaps 132 = .ok (.iconst 0, 1) := by decide +kernel
theorem dX12_overlaps_133 : decode cX12_overlaps 133 = .ok (.ireturn, 1) := by decide +kernel
abbrev rmX12_overlaps : Room := { frames := 5, cells := 0, slots := 0, locals := 132 }
noncomputable def fLX12_overlaps_37 (x0 : Nat) (x1 : Int32) (x2 : Int32) (x3 : Int32) (a : Int32 × St) : Option ((Int32 × St) ⊕ ((St) ⊕ (St))) :=
(isO a.2 x0 11).bind fun _ =>
(fX12_leftOf a.2 x0 x2).bind fun w41 =>
(fX12_length w41).bind fun w44 =>
if w44 ≤ a.1 then
(some (Sum.inr (Sum.inr a.2)))
else
((isO a.2 x0 11).bind fun _ =>
(fX12_overlapped a.2 x0 x2 x3 a.1).bind fun w55 =>
if (lg_cmp w55 (-1)) = 0 then
(xlet (a.1 + 1) fun v114 =>
some (Sum.inl (v114, a.2)))
else
((wrF a.2 x0 11 28 (.int (x2))).bind fun σ74 =>
(wrF σ74 x0 11 29 (.int (x3))).bind fun σ79 =>
(wrF σ79 x0 11 30 (.int (a.1))).bind fun σ85 =>
(wrF σ85 x0 11 31 (.long (w55))).bind fun σ91 =>
(gI σ91 x0 11 32).bind fun v95 =>
if v95 = x1 then
(some (Sum.inr (Sum.inl σ91)))
else
((gI σ91 x0 11 32).bind fun v106 =>
(wrF σ91 x0 11 32 (.int (v106 + 1))).bind fun σ111 =>
xlet (a.1 + 1) fun v114 =>
some (Sum.inl (v114, σ111)))))
set_option maxHeartbeats 4000000 in
set_option maxRecDepth 100000 in
theorem lpX12_overlaps_37 {X : xX} {x0 : Nat} {x1 : Int32} {x2 : Int32} {x3 : Int32}  {a0 : Int32 × St} {b : (St) ⊕ (St)} (C : Ok X cX12_overlaps 7 RX12 rmX12_overlaps (some .boolean)) (hb : iterP (fLX12_overlaps_37 x0 x1 x2 x3) a0 = some b) (hy0 : ∀ s, b = (Sum.inl s) → V X (0, 0) s 102 [] []) (hy1 : ∀ s, b = (Sum.inr s) → V X (0, 0) s 120 [(0, .ref (x0)), (1, .int (x1)), (2, .int (x2)), (3, .int (x3))] []) : V X (0, 0) a0.2 37 [(0, .ref (x0)), (1, .int (x1)), (2, .int (x2)), (3, .int (x3)), (4, .int (a0.1))] [] := by
  obtain ⟨n, hn⟩ := iterP_some hb
  refine x_loop (P := fun a => V X (0, 0) a.2 37 [(0, .ref (x0)), (1, .int (x1)), (2, .int (x2)), (3, .int (x3)), (4, .int (a.1))] []) ?_ n a0 hn
  intro a c hf hK hxx
  have hx0 : ∀ s, c = Sum.inr (Sum.inl s) → V X (0, 0) s 102 [] [] := fun s e => hy0 s (hxx _ e).symm
  have hx1 : ∀ s, c = Sum.inr (Sum.inr s) → V X (0, 0) s 120 [(0, .ref (x0)), (1, .int (x1)), (2, .int (x2)), (3, .int (x3))] [] := fun s e => hy1 s (hxx _ e).symm
  unfold fLX12_overlaps_37 at hf
  refine x_iload C dX12_overlaps_37 39 rfl 4 rfl ?_
  refine x_aload_n C dX12_overlaps_39 40 rfl 0 rfl rfl ?_
  refine x_iload_n C dX12_overlaps_40 41 rfl 2 rfl rfl ?_
  obtain ⟨o41, ho41, hf⟩ := x_bind hf
  obtain ⟨w41, hw41, hf⟩ := x_bind hf
  refine x_callVl C dX12_overlaps_41 44 rfl ho41 cl11.1 rfl (cX12_leftOfc hw41) kX12_leftOf kvX12_leftOf w1752 ⟨rfl, rfl⟩ ⟨Nat.le_of_ble_eq_true rfl, Nat.le_of_ble_eq_true rfl⟩ ⟨Nat.zero_le _, Nat.zero_le _⟩ rfl rfl (Nat.le_of_ble_eq_true rfl) ?_
  obtain ⟨w44, hw44, hf⟩ := x_bind hf
  refine x_callSi C dX12_overlaps_44 47 rfl (cX12_lengthc hw44) kX12_length ksX12_length w1728 ⟨rfl, rfl⟩ ⟨Nat.le_of_ble_eq_true rfl, Nat.le_of_ble_eq_true rfl⟩ ⟨Nat.zero_le _, Nat.zero_le _⟩ rfl rfl (Nat.le_of_ble_eq_true rfl) ?_
  refine x_icmp_ge C dX12_overlaps_47 120 (by decide) 50 rfl (fun hc => ?_) (fun hc => ?_)
  · have hf := (if_pos hc).symm.trans hf
    refine x_lv [0, 1, 2, 3] (lv' := [(0, .ref (x0)), (1, .int (x1)), (2, .int (x2)), (3, .int (x3))]) rfl ?_
    exact hx1 _ (Option.some.inj hf).symm
  · have hf := (if_neg hc).symm.trans hf
    refine x_aload_n C dX12_overlaps_50 51 rfl 0 rfl rfl ?_
    refine x_iload_n C dX12_overlaps_51 52 rfl 2 rfl rfl ?_
    refine x_iload_n C dX12_overlaps_52 53 rfl 3 rfl rfl ?_
    refine x_iload C dX12_overlaps_53 55 rfl 4 rfl ?_
    obtain ⟨o55, ho55, hf⟩ := x_bind hf
    obtain ⟨w55, hw55, hf⟩ := x_bind hf
    refine x_callVl C dX12_overlaps_55 58 rfl ho55 cl11.1 rfl (cX12_overlappedc hw55) kX12_overlapped kvX12_overlapped w1784 ⟨rfl, rfl⟩ ⟨Nat.le_of_ble_eq_true rfl, Nat.le_of_ble_eq_true rfl⟩ ⟨Nat.zero_le _, Nat.zero_le _⟩ rfl rfl (Nat.le_of_ble_eq_true rfl) ?_
    refine x_lstore C dX12_overlaps_58 60 rfl rfl [(5, .long (w55)), (0, .ref (x0)), (1, .int (x1)), (2, .int (x2)), (3, .int (x3)), (4, .int (a.1))] rfl ?_
    refine x_lload C dX12_overlaps_60 62 rfl 0 rfl ?_
    refine x_ldc2 C dX12_overlaps_62 65 rfl w1788 ?_
    refine x_lcmp C dX12_overlaps_65 66 rfl ?_
    refine x_if_ne C dX12_overlaps_66 72 (by decide) 69 rfl (fun hc => ?_) (fun hc => ?_)
    · have hf := (if_neg hc).symm.trans hf
      refine x_aload_n C dX12_overlaps_72 73 rfl 1 rfl rfl ?_
      refine x_iload_n C dX12_overlaps_73 74 rfl 3 rfl rfl ?_
      obtain ⟨σ74, hσ74, hf⟩ := x_bind hf
      refine x_putX C dX12_overlaps_74 77 rfl hσ74 cl11 rfl w1471 rfl rfl rfl ?_
      refine x_aload_n C dX12_overlaps_77 78 rfl 1 rfl rfl ?_
      refine x_iload_n C dX12_overlaps_78 79 rfl 4 rfl rfl ?_
      obtain ⟨σ79, hσ79, hf⟩ := x_bind hf
      refine x_putX C dX12_overlaps_79 82 rfl hσ79 cl11 rfl w1472 rfl rfl rfl ?_
      refine x_aload_n C dX12_overlaps_82 83 rfl 1 rfl rfl ?_
      refine x_iload C dX12_overlaps_83 85 rfl 5 rfl ?_
      obtain ⟨σ85, hσ85, hf⟩ := x_bind hf
      refine x_putX C dX12_overlaps_85 88 rfl hσ85 cl11 rfl w1473 rfl rfl rfl ?_
      refine x_aload_n C dX12_overlaps_88 89 rfl 1 rfl rfl ?_
      refine x_lload C dX12_overlaps_89 91 rfl 0 rfl ?_
      obtain ⟨σ91, hσ91, hf⟩ := x_bind hf
      refine x_putX C dX12_overlaps_91 94 rfl hσ91 cl11 rfl w1474 rfl rfl rfl ?_
      refine x_aload_n C dX12_overlaps_94 95 rfl 1 rfl rfl ?_
      obtain ⟨v95, hv95, hf⟩ := x_bind hf
      refine x_getI C dX12_overlaps_95 98 rfl hv95 cl11 rfl w1475 ?_
      refine x_iload_n C dX12_overlaps_98 99 rfl 2 rfl rfl ?_
      refine x_icmp_ne C dX12_overlaps_99 104 (by decide) 102 rfl (fun hc => ?_) (fun hc => ?_)
      · have hf := (if_neg hc).symm.trans hf
        refine x_aload_n C dX12_overlaps_104 105 rfl 1 rfl rfl ?_
        refine x_dup C dX12_overlaps_105 106 rfl rfl ?_
        obtain ⟨v106, hv106, hf⟩ := x_bind hf
        refine x_getI C dX12_overlaps_106 109 rfl hv106 cl11 rfl w1475 ?_
        refine x_iconst C dX12_overlaps_109 110 rfl 1 (by decide) ?_
        refine x_iadd C dX12_overlaps_110 111 rfl ?_
        obtain ⟨σ111, hσ111, hf⟩ := x_bind hf
        refine x_putX C dX12_overlaps_111 114 rfl hσ111 cl11 rfl w1475 rfl rfl rfl ?_
        obtain ⟨v114, ev114, hf⟩ := xlet_some hf
        refine x_iinc C dX12_overlaps_114 117 rfl 5 rfl v114 ev114 rfl [(4, .int (v114)), (5, .long (w55)), (0, .ref (x0)), (1, .int (x1)), (2, .int (x2)), (3, .int (x3))] rfl ?_
        refine x_goto C dX12_overlaps_117 37 (by decide) ?_
        refine x_lv [2, 3, 4, 5, 0] (lv' := [(0, .ref (x0)), (1, .int (x1)), (2, .int (x2)), (3, .int (x3)), (4, .int (v114))]) rfl ?_
        exact hK _ (Option.some.inj hf).symm
      · have hf := (if_pos hc).symm.trans hf
        refine x_lv [] (lv' := []) rfl ?_
        exact hx0 _ (Option.some.inj hf).symm
    · have hf := (if_pos hc).symm.trans hf
      refine x_goto C dX12_overlaps_69 114 (by decide) ?_
      obtain ⟨v114, ev114, hf⟩ := xlet_some hf
      refine x_iinc C dX12_overlaps_114 117 rfl 5 rfl v114 ev114 rfl [(4, .int (v114)), (5, .long (w55)), (0, .ref (x0)), (1, .int (x1)), (2, .int (x2)), (3, .int (x3))] rfl ?_
      refine x_goto C dX12_overlaps_117 37 (by decide) ?_
      refine x_lv [2, 3, 4, 5, 0] (lv' := [(0, .ref (x0)), (1, .int (x1)), (2, .int (x2)), (3, .int (x3)), (4, .int (v114))]) rfl ?_
      exact hK _ (Option.some.inj hf).symm
noncomputable def fJX12_overlaps_17_35 (σ : St) (x0 : Nat) (x1 : Int32) (x2 : Int32) (x3 : Int32) (t0 : Int32) : Option ((Int32 × St) ⊕ ((St) ⊕ (St))) :=
(iterP (fLX12_overlaps_37 x0 x1 x2 x3) (t0, σ)).bind fun b37 =>
(match b37 with
| .inl s37 =>
some (Sum.inr (Sum.inl s37))
| .inr s37 =>
xlet (x3 + 1) fun v120 =>
some (Sum.inl (v120, s37)))
set_option maxHeartbeats 4000000 in
set_option maxRecDepth 100000 in
theorem jnX12_overlaps_17_35 {X : xX} {σ : St} {x0 : Nat} {x1 : Int32} {x2 : Int32} {x3 : Int32} {t0 : Int32}  {c : (Int32 × St) ⊕ ((St) ⊕ (St))} (C : Ok X cX12_overlaps 7 RX12 rmX12_overlaps (some .boolean)) (hf : fJX12_overlaps_17_35 σ x0 x1 x2 x3 t0 = some c) (hK : ∀ a', c = Sum.inl a' → V X (0, 0) a'.2 17 [(0, .ref (x0)), (1, .int (x1)), (2, .int (x2)), (3, .int (a'.1))] []) (hx0 : ∀ s, c = Sum.inr (Sum.inl s) → V X (0, 0) s 102 [] []) (hx1 : ∀ s, c = Sum.inr (Sum.inr s) → V X (0, 0) s 126 [(0, .ref (x0)), (1, .int (x1)), (2, .int (x2))] []) : V X (0, 0) σ 35 [(0, .ref (x0)), (1, .int (x1)), (2, .int (x2)), (3, .int (x3))] [.int (t0)] := by
  unfold fJX12_overlaps_17_35 at hf
  refine x_istore C dX12_overlaps_35 37 rfl rfl [(4, .int (t0)), (0, .ref (x0)), (1, .int (x1)), (2, .int (x2)), (3, .int (x3))] rfl ?_
  obtain ⟨b37, hb37, hf⟩ := x_bind hf
  refine x_lv [1, 2, 3, 4, 0] (lv' := [(0, .ref (x0)), (1, .int (x1)), (2, .int (x2)), (3, .int (x3)), (4, .int (t0))]) rfl ?_
  refine lpX12_overlaps_37 C hb37 (fun s37 e37 => ?_) (fun s37 e37 => ?_)
  · subst e37
    try dsimp only at hf
    exact hx0 _ (Option.some.inj hf).symm
  · subst e37
    try dsimp only at hf
    obtain ⟨v120, ev120, hf⟩ := xlet_some hf
    refine x_iinc C dX12_overlaps_120 123 rfl 3 rfl v120 ev120 rfl [(3, .int (v120)), (0, .ref (x0)), (1, .int (x1)), (2, .int (x2))] rfl ?_
    refine x_goto C dX12_overlaps_123 17 (by decide) ?_
    refine x_lv [1, 2, 3, 0] (lv' := [(0, .ref (x0)), (1, .int (x1)), (2, .int (x2)), (3, .int (v120))]) rfl ?_
    exact hK _ (Option.some.inj hf).symm
noncomputable def fLX12_overlaps_17 (x0 : Nat) (x1 : Int32) (x2 : Int32) (a : Int32 × St) : Option ((Int32 × St) ⊕ ((St) ⊕ (St))) :=
(isO a.2 x0 11).bind fun _ =>
(fX12_rules a.2 x0).bind fun w19 =>
if w19 ≤ a.1 then
(some (Sum.inr (Sum.inr a.2)))
else
(if a.1 ≤ x2 then
(fJX12_overlaps_17_35 a.2 x0 x1 x2 a.1 1)
else
(fJX12_overlaps_17_35 a.2 x0 x1 x2 a.1 0))
set_option maxHeartbeats 4000000 in
set_option maxRecDepth 100000 in
theorem lpX12_overlaps_17 {X : xX} {x0 : Nat} {x1 : Int32} {x2 : Int32}  {a0 : Int32 × St} {b : (St) ⊕ (St)} (C : Ok X cX12_overlaps 7 RX12 rmX12_overlaps (some .boolean)) (hb : iterP (fLX12_overlaps_17 x0 x1 x2) a0 = some b) (hy0 : ∀ s, b = (Sum.inl s) → V X (0, 0) s 102 [] []) (hy1 : ∀ s, b = (Sum.inr s) → V X (0, 0) s 126 [(0, .ref (x0)), (1, .int (x1)), (2, .int (x2))] []) : V X (0, 0) a0.2 17 [(0, .ref (x0)), (1, .int (x1)), (2, .int (x2)), (3, .int (a0.1))] [] := by
  obtain ⟨n, hn⟩ := iterP_some hb
  refine x_loop (P := fun a => V X (0, 0) a.2 17 [(0, .ref (x0)), (1, .int (x1)), (2, .int (x2)), (3, .int (a.1))] []) ?_ n a0 hn
  intro a c hf hK hxx
  have hx0 : ∀ s, c = Sum.inr (Sum.inl s) → V X (0, 0) s 102 [] [] := fun s e => hy0 s (hxx _ e).symm
  have hx1 : ∀ s, c = Sum.inr (Sum.inr s) → V X (0, 0) s 126 [(0, .ref (x0)), (1, .int (x1)), (2, .int (x2))] [] := fun s e => hy1 s (hxx _ e).symm
  unfold fLX12_overlaps_17 at hf
  refine x_iload_n C dX12_overlaps_17 18 rfl 3 rfl rfl ?_
  refine x_aload_n C dX12_overlaps_18 19 rfl 0 rfl rfl ?_
  obtain ⟨o19, ho19, hf⟩ := x_bind hf
  obtain ⟨w19, hw19, hf⟩ := x_bind hf
  refine x_callVi C dX12_overlaps_19 22 rfl ho19 cl11.1 rfl (cX12_rulesc hw19) kX12_rules kvX12_rules w1735 ⟨rfl, rfl⟩ ⟨Nat.le_of_ble_eq_true rfl, Nat.le_of_ble_eq_true rfl⟩ ⟨Nat.zero_le _, Nat.zero_le _⟩ rfl rfl (Nat.le_of_ble_eq_true rfl) ?_
  refine x_icmp_ge C dX12_overlaps_22 126 (by decide) 25 rfl (fun hc => ?_) (fun hc => ?_)
  · have hf := (if_pos hc).symm.trans hf
    refine x_lv [0, 1, 2] (lv' := [(0, .ref (x0)), (1, .int (x1)), (2, .int (x2))]) rfl ?_
    exact hx1 _ (Option.some.inj hf).symm
  · have hf := (if_neg hc).symm.trans hf
    refine x_iload_n C dX12_overlaps_25 26 rfl 2 rfl rfl ?_
    refine x_iload_n C dX12_overlaps_26 27 rfl 3 rfl rfl ?_
    refine x_icmp_ge C dX12_overlaps_27 34 (by decide) 30 rfl (fun hc => ?_) (fun hc => ?_)
    · have hf := (if_pos hc).symm.trans hf
      refine x_iconst C dX12_overlaps_34 35 rfl 1 (by decide) ?_
      exact jnX12_overlaps_17_35 C hf hK hx0 hx1
    · have hf := (if_neg hc).symm.trans hf
      refine x_iconst C dX12_overlaps_30 31 rfl 0 (by decide) ?_
      refine x_goto C dX12_overlaps_31 35 (by decide) ?_
      exact jnX12_overlaps_17_35 C hf hK hx0 hx1
noncomputable def fLX12_overlaps_7 (x0 : Nat) (x1 : Int32) (a : Int32 × St) : Option ((Int32 × St) ⊕ ((St) ⊕ (St))) :=
(isO a.2 x0 11).bind fun _ =>
(fX12_rules a.2 x0).bind fun w9 =>
if w9 ≤ a.1 then
(some (Sum.inr (Sum.inr a.2)))
else
((iterP (fLX12_overlaps_17 x0 x1 a.1) (0, a.2)).bind fun b17 =>
(match b17 with
| .inl s17 =>
some (Sum.inr (Sum.inl s17))
| .inr s17 =>
xlet (a.1 + 1) fun v126 =>
some (Sum.inl (v126, s17))))
set_option maxHeartbeats 4000000 in
set_option maxRecDepth 100000 in
theorem lpX12_overlaps_7 {X : xX} {x0 : Nat} {x1 : Int32}  {a0 : Int32 × St} {b : (St) ⊕ (St)} (C : Ok X cX12_overlaps 7 RX12 rmX12_overlaps (some .boolean)) (hb : iterP (fLX12_overlaps_7 x0 x1) a0 = some b) (hy0 : ∀ s, b = (Sum.inl s) → V X (0, 0) s 102 [] []) (hy1 : ∀ s, b = (Sum.inr s) → V X (0, 0) s 132 [] []) : V X (0, 0) a0.2 7 [(0, .ref (x0)), (1, .int (x1)), (2, .int (a0.1))] [] := by
  obtain ⟨n, hn⟩ := iterP_some hb
  refine x_loop (P := fun a => V X (0, 0) a.2 7 [(0, .ref (x0)), (1, .int (x1)), (2, .int (a.1))] []) ?_ n a0 hn
  intro a c hf hK hxx
  have hx0 : ∀ s, c = Sum.inr (Sum.inl s) → V X (0, 0) s 102 [] [] := fun s e => hy0 s (hxx _ e).symm
  have hx1 : ∀ s, c = Sum.inr (Sum.inr s) → V X (0, 0) s 132 [] [] := fun s e => hy1 s (hxx _ e).symm
  unfold fLX12_overlaps_7 at hf
  refine x_iload_n C dX12_overlaps_7 8 rfl 2 rfl rfl ?_
  refine x_aload_n C dX12_overlaps_8 9 rfl 0 rfl rfl ?_
  obtain ⟨o9, ho9, hf⟩ := x_bind hf
  obtain ⟨w9, hw9, hf⟩ := x_bind hf
  refine x_callVi C dX12_overlaps_9 12 rfl ho9 cl11.1 rfl (cX12_rulesc hw9) kX12_rules kvX12_rules w1735 ⟨rfl, rfl⟩ ⟨Nat.le_of_ble_eq_true rfl, Nat.le_of_ble_eq_true rfl⟩ ⟨Nat.zero_le _, Nat.zero_le _⟩ rfl rfl (Nat.le_of_ble_eq_true rfl) ?_
  refine x_icmp_ge C dX12_overlaps_12 132 (by decide) 15 rfl (fun hc => ?_) (fun hc => ?_)
  · have hf := (if_pos hc).symm.trans hf
    refine x_lv [] (lv' := []) rfl ?_
    exact hx1 _ (Option.some.inj hf).symm
  · have hf := (if_neg hc).symm.trans hf
    refine x_iconst C dX12_overlaps_15 16 rfl 0 (by decide) ?_
    refine x_istore_n C dX12_overlaps_16 17 rfl rfl rfl [(3, .int (0)), (0, .ref (x0)), (1, .int (x1)), (2, .int (a.1))] rfl ?_
    obtain ⟨b17, hb17, hf⟩ := x_bind hf
    refine x_lv [1, 2, 3, 0] (lv' := [(0, .ref (x0)), (1, .int (x1)), (2, .int (a.1)), (3, .int (0))]) rfl ?_
    refine lpX12_overlaps_17 C hb17 (fun s17 e17 => ?_) (fun s17 e17 => ?_)
    · subst e17
      try dsimp only at hf
      exact hx0 _ (Option.some.inj hf).symm
    · subst e17
      try dsimp only at hf
      obtain ⟨v126, ev126, hf⟩ := xlet_some hf
      refine x_iinc C dX12_overlaps_126 129 rfl 2 rfl v126 ev126 rfl [(2, .int (v126)), (0, .ref (x0)), (1, .int (x1))] rfl ?_
      refine x_goto C dX12_overlaps_129 7 (by decide) ?_
      refine x_lv [1, 2, 0] (lv' := [(0, .ref (x0)), (1, .int (x1)), (2, .int (v126))]) rfl ?_
      exact hK _ (Option.some.inj hf).symm
noncomputable def fX12_overlaps (σ : St) (x0 : Nat) (x1 : Int32) : Option ((Int32 × St)) :=
(wrF σ x0 11 32 (.int (0))).bind fun σ2 =>
(iterP (fLX12_overlaps_7 x0 x1) (0, σ2)).bind fun b7 =>
(match b7 with
| .inl s7 =>
some (1, s7)
| .inr s7 =>
some (0, s7))
set_option maxHeartbeats 4000000 in
set_option maxRecDepth 100000 in
theorem cX12_overlapsc {l : Launch} {G : xG} {A : Nat → Prop} {σ : St} {x0 : Nat} {x1 : Int32} {c : (Int32 × St)} (hf : fX12_overlaps σ x0 x1 = some c) : Con l yX12_overlaps (xws yX12_overlaps cX12_overlaps 7 (some .boolean)) rmX12_overlaps [.ref (x0), .int (x1)] G A σ (some (.int c.1)) c.2 := by
  refine x_start rfl (Nat.le_of_ble_eq_true rfl) (fun X _ _ _ C hE0 => ?_)
  have hE : ∀ r, c = r → xE1 X (some (.int r.1)) r.2 := fun r e => e ▸ hE0
  show V X (0, 0) σ 0 [(0, .ref (x0)), (1, .int (x1))] []
  unfold fX12_overlaps at hf
  refine x_aload_n C dX12_overlaps_0 1 rfl 0 rfl rfl ?_
  refine x_iconst C dX12_overlaps_1 2 rfl 0 (by decide) ?_
  obtain ⟨σ2, hσ2, hf⟩ := x_bind hf
  refine x_putX C dX12_overlaps_2 5 rfl hσ2 cl11 rfl w1475 rfl rfl rfl ?_
  refine x_iconst C dX12_overlaps_5 6 rfl 0 (by decide) ?_
  refine x_istore_n C dX12_overlaps_6 7 rfl rfl rfl [(2, .int (0)), (0, .ref (x0)), (1, .int (x1))] rfl ?_
  obtain ⟨b7, hb7, hf⟩ := x_bind hf
  refine x_lv [1, 2, 0] (lv' := [(0, .ref (x0)), (1, .int (x1)), (2, .int (0))]) rfl ?_
  refine lpX12_overlaps_7 C hb7 (fun s7 e7 => ?_) (fun s7 e7 => ?_)
  · subst e7
    try dsimp only at hf
    refine x_iconst C dX12_overlaps_102 103 rfl 1 (by decide) ?_
    exact x_zret C rfl (hE _ (Option.some.inj hf).symm) dX12_overlaps_103
  · subst e7
    try dsimp only at hf
    refine x_iconst C dX12_overlaps_132 133 rfl 0 (by decide) ?_
    exact x_zret C rfl (hE _ (Option.some.inj hf).symm) dX12_overlaps_133
theorem dX12_addsRule_0 : decode cX12_addsRule 0 = .ok (.iconst (-1), 1) := by decide +kernel
theorem dX12_addsRule_1 : decode cX12_addsRule 1 = .ok (.istore_n 1, 1) := by decide +kernel
theorem dX12_addsRule_2 : decode cX12_addsRule 2 = .ok (.lconst 0, 1) := by decide +kernel
theorem dX12_addsRule_3 : decode cX12_addsRule 3 = .ok (.lstore_n 2, 1) := by decide +kernel
theorem dX12_addsRule_4 : decode cX12_addsRule 4 = .ok (.iconst 0, 1) := by decide +kernel
theorem dX12_addsRule_5 : decode cX12_addsRule 5 = .ok (.istore 4, 2) := by decide +kernel
theorem dX12_addsRule_7 : decode cX12_addsRule 7 = .ok (.aload_n 0, 1) := by decide +kernel
theorem dX12_addsRule_8 : decode cX12_addsRule 8 = .ok (.iload 4, 2) := by decide +kernel
theorem dX12_addsRule_10 : decode cX12_addsRule 10 = .ok (.invokevirtual 373, 3) := by decide +kernel
theorem dX12_addsRule_13 : decode cX12_addsRule 13 = .ok (.ifCond .eq 43, 3) := by decide +kernel
theorem dX12_addsRule_16 : decode cX12_addsRule 16 = .ok (.aload_n 0, 1) := by decide +kernel
theorem dX12_addsRule_17 : decode cX12_addsRule 17 = .ok (.getfield 360, 3) := by decide +kernel
theorem dX12_addsRule_20 : decode cX12_addsRule 20 = .ok (.lstore 5, 2) := by decide +kernel
theorem dX12_addsRule_22 : decode cX12_addsRule 22 = .ok (.aload_n 0, 1) := by decide +kernel
theorem dX12_addsRule_23 : decode cX12_addsRule 23 = .ok (.invokevirtual 376, 3) := by decide +kernel
theorem dX12_addsRule_26 : decode cX12_addsRule 26 = .ok (.ifCond .ne 24, 3) := by decide +kernel
theorem dX12_addsRule_29 : decode cX12_addsRule 29 = .ok (.iload_n 1, 1) := by decide +kernel
theorem dX12_addsRule_30 : decode cX12_addsRule 30 = .ok (.iconst (-1), 1) := by decide +kernel
theorem dX12_addsRule_31 : decode cX12_addsRule 31 = .ok (.if_icmp .eq 13, 3) := by decide +kernel
theorem dX12_addsRule_34 : decode cX12_addsRule 34 = .ok (.aload_n 0, 1) := by decide +kernel
theorem dX12_addsRule_35 : decode cX12_addsRule 35 = .ok (.lload_n 2, 1) := by decide +kernel
theorem dX12_addsRule_36 : decode cX12_addsRule 36 = .ok (.lload 5, 2) := by decide +kernel
theorem dX12_addsRule_38 : decode cX12_addsRule 38 = .ok (.invokevirtual 312, 3) := by decide +kernel
theorem dX12_addsRule_41 : decode cX12_addsRule 41 = .ok (.ifCond .le 9, 3) := by decide +kernel
theorem dX12_addsRule_44 : decode cX12_addsRule 44 = .ok (.iload 4, 2) := by decide +kernel
theorem dX12_addsRule_46 : decode cX12_addsRule 46 = .ok (.istore_n 1, 1) := by decide +kernel
theorem dX12_addsRule_47 : decode cX12_addsRule 47 = .ok (.lload 5, 2) := by decide +kernel
theorem dX12_addsRule_49 : decode cX12_addsRule 49 = .ok (.lstore_n 2, 1) := by decide +kernel
theorem dX12_addsRule_50 : decode cX12_addsRule 50 = .ok (.iinc 4 1, 3) := by decide +kernel
theorem dX12_addsRule_53 : decode cX12_addsRule 53 = .ok (.goto (-46), 3) := by decide +kernel
theorem dX12_addsRule_56 : decode cX12_addsRule 56 = .ok (.iload_n 1, 1) := by decide +kernel
theorem dX12_addsRule_57 : decode cX12_addsRule 57 = .ok (.iconst (-1), 1) := by decide +kernel
theorem dX12_addsRule_58 : decode cX12_addsRule 58 = .ok (.if_icmp .eq 18, 3) := by decide +kernel
theorem dX12_addsRule_61 : decode cX12_addsRule 61 = .ok (.aload_n 0, 1) := by decide +kernel
theorem dX12_addsRule_62 : decode cX12_addsRule 62 = .ok (.iload_n 1, 1) := by decide +kernel
theorem dX12_addsRule_63 : decode cX12_addsRule 63 = .ok (.invokevirtual 373, 3) := by decide +kernel
theorem dX12_addsRule_66 : decode cX12_addsRule 66 = .ok (.ifCond .eq 10, 3) := by decide +kernel
theorem dX12_addsRule_69 : decode cX12_addsRule 69 = .ok (.aload_n 0, 1) := by decide +kernel
theorem dX12_addsRule_70 : decode cX12_addsRule 70 = .ok (.invokevirtual 376, 3) := by decide +kernel
theorem dX12_addsRule_73 : decode cX12_addsRule 73 = .ok (.ifCond .eq 5, 3) := by decide +kernel
theorem dX12_addsRule_76 : decode cX12_addsRule 76 = .ok (.iconst 0, 1) := by decide +kernel
theorem dX12_addsRule_77 : decode cX12_addsRule 77 = .ok (.ireturn, 1) := by decide +kernel
theorem dX12_addsRule_78 : decode cX12_addsRule 78 = .ok (.aload_n 0, 1) := by decide +kernel
theorem dX12_addsRule_79 : decode cX12_addsRule 79 = .ok (.aload_n 0, 1) := by decide +kernel
theorem dX12_addsRule_80 : decode cX12_addsRule 80 = .ok (.getfield 367, 3) := by decide +kernel
theorem dX12_addsRule_83 : decode cX12_addsRule 83 = .ok (.aload_n 0, 1) := by decide +kernel
theorem dX12_addsRule_84 : decode cX12_addsRule 84 = .ok (.getfield 370, 3) := by decide +kernel
theorem dX12_addsRule_87 : decode cX12_addsRule 87 = .ok (.invokevirtual 312, 3) := by decide +kernel
theorem dX12_addsRule_90 : decode cX12_addsRule 90 = .ok (.ifCond .le 7, 3) := by decide +kernel
theorem dX12_addsRule_93 : decode cX12_addsRule 93 = .ok (.iconst 1, 1) := by decide +kernel
theorem dX12_addsRule_94 : decode cX12_addsRule 94 = .ok (.goto 4, 3) := by decide +kernel
theorem dX12_addsRule_97 : decode cX12_addsRule 97 = .ok (.iconst 0, 1) := by decide +kernel
theorem dX12_addsRule_98 : decode cX12_addsRule 98 = .ok (.istore 4, 2) := by decide +kernel
theorem dX12_addsRule_100 : decode cX12_addsRule 100 = .ok (.aload_n 0, 1) := by decide +kernel
theorem dX12_addsRule_101 : decode cX12_addsRule 101 = .ok (.invokevirtual 273, 3) := by decide +kernel
theorem dX12_addsRule_104 : decode cX12_addsRule 104 = .ok (.istore 5, 2) := by decide +kernel
theorem dX12_addsRule_106 : decode cX12_addsRule 106 = .ok (.aload_n 0, 1) := by decide +kernel
theorem dX12_addsRule_107 : decode cX12_addsRule 107 = .ok (.getfield 13, 3) := by decide +kernel
theorem dX12_addsRule_110 : decode cX12_addsRule 110 = .ok (.bipush 12, 2) := by decide +kernel
theorem dX12_addsRule_112 : decode cX12_addsRule 112 = .ok (.iload 5, 2) := by decide +kernel
theorem dX12_addsRule_114 : decode cX12_addsRule 114 = .ok (.iadd, 1) := by decide +kernel
theorem dX12_addsRule_115 : decode cX12_addsRule 115 = .ok (.iload 4, 2) := by decide +kernel
theorem dX12_addsRule_117 : decode cX12_addsRule 117 = .ok (.ifCond .eq 10, 3) := by decide +kernel
theorem dX12_addsRule_120 : decode cX12_addsRule 120 = .ok (.aload_n 0, 1) := by decide +kernel
theorem dX12_addsRule_121 : decode cX12_addsRule 121 = .ok (.getfield 367, 3) := by decide +kernel
theorem dX12_addsRule_124 : decode cX12_addsRule 124 = .ok (.goto 7, 3) := by decide +kernel
theorem dX12_addsRule_127 : decode cX12_addsRule 127 = .ok (.aload_n 0, 1) := by decide +kernel
theorem dX12_addsRule_128 : decode cX12_addsRule 128 = .ok (.getfield 370, 3) := by decide +kernel
theorem dX12_addsRule_131 : decode cX12_addsRule 131 = .ok (.lastore, 1) := by decide +kernel
theorem dX12_addsRule_132 : decode cX12_addsRule 132 = .ok (.aload_n 0, 1) := by decide +kernel
theorem dX12_addsRule_133 : decode cX12_addsRule 133 = .ok (.getfield 13, 3) := by decide +kernel
theorem dX12_addsRule_136 : decode cX12_addsRule 136 = .ok (.bipush 24, 2) := by decide +kernel
theorem dX12_addsRule_138 : decode cX12_addsRule 138 = .ok (.iload 5, 2) := by decide +kernel
theorem dX12_addsRule_140 : decode cX12_addsRule 140 = .ok (.iadd, 1) := by decide +kernel
theorem dX12_addsRule_141 : decode cX12_addsRule 141 = .ok (.iload 4, 2) := by decide +kernel
theorem dX12_addsRule_143 : decode cX12_addsRule 143 = .ok (.ifCond .eq 10, 3) := by decide +kernel
theorem dX12_addsRule_146 : decode cX12_addsRule 146 = .ok (.aload_n 0, 1) := by decide +kernel
theorem dX12_addsRule_147 : decode cX12_addsRule 147 = .ok (.getfield 370, 3) := by decide +kernel
theorem dX12_addsRule_150 : decode cX12_addsRule 150 = .ok (.goto 7, 3) := by decide +kernel
theorem dX12_addsRule_153 : decode cX12_addsRule 153 = .ok (.aload_n 0, 1) := by decide +kernel
theorem dX12_addsRule_154 : decode cX12_addsRule 154 = .ok (.getfield 367, 3) := by decide +kernel
theorem dX12_addsRule_157 : decode cX12_addsRule 157 = .ok (.lastore, 1) := by decide +kernel
theorem dX12_addsRule_158 : decode cX12_addsRule 158 = .ok (.aload_n 0, 1) := by decide +kernel
theorem dX12_addsRule_159 : decode cX12_addsRule 159 = .ok (.getfield 13, 3) := by decide +kernel
theorem dX12_addsRule_162 : decode cX12_addsRule 162 = .ok (.iconst 1, 1) := by decide +kernel
theorem dX12_addsRule_163 : decode cX12_addsRule 163 = .ok (.dup2, 1) := by decide +kernel
theorem dX12_addsRule_164 : decode cX12_addsRule 164 = .ok (.laload, 1) := by decide +kernel
theorem dX12_addsRule_165 : decode cX12_addsRule 165 = .ok (.lconst 1, 1) := by decide +kernel
theorem dX12_addsRule_166 : decode cX12_addsRule 166 = .ok (.ladd, 1) := by decide +kernel
theorem dX12_addsRule_167 : decode cX12_addsRule 167 = .ok (.lastore, 1) := by decide +kernel
theorem dX12_addsRule_168 : decode cX12_addsRule 168 = .ok (.iconst 1, 1) := by decide +kernel
theorem dX12_addsRule_169 : decode cX12_addsRule 169 = .ok (.ireturn, 1) := by decide +kernel
abbrev rmX12_addsRule : Room := { frames := 9, cells := 0, slots := 0, locals := 224 }
noncomputable def fLX12_addsRule_7 (x0 : Nat) (a : Int32 × Int64 × Int32 × St) : Option ((Int32 × Int64 × Int32 × St) ⊕ (Int32 × St)) :=
(isO a.2.2.2 x0 11).bind fun _ =>
(fX12_overlaps a.2.2.2 x0 a.2.2.1).bind fun w10 =>
if w10.1 = 0 then
(some (Sum.inr (a.1, w10.2)))
else
((gL w10.2 x0 11 31).bind fun v17 =>
(isO w10.2 x0 11).bind fun _ =>
(fX12_closes w10.2 x0).bind fun w23 =>
if w23.1 = 0 then
(if a.1 = (((-1) : Int32)) then
(xlet (a.2.2.1 + 1) fun v50 =>
some (Sum.inl (a.2.2.1, v17, v50, w23.2)))
else
((isO w23.2 x0 11).bind fun _ =>
(fX12_compared w23.2 x0 a.2.1 v17).bind fun w38 =>
if w38 ≤ 0 then
(xlet (a.2.2.1 + 1) fun v50 =>
some (Sum.inl (a.1, a.2.1, v50, w23.2)))
else
(xlet (a.2.2.1 + 1) fun v50 =>
some (Sum.inl (a.2.2.1, v17, v50, w23.2)))))
else
(xlet (a.2.2.1 + 1) fun v50 =>
some (Sum.inl (a.1, a.2.1, v50, w23.2))))
set_option maxHeartbeats 4000000 in
set_option maxRecDepth 100000 in
theorem lpX12_addsRule_7 {X : xX} {x0 : Nat}  {a0 : Int32 × Int64 × Int32 × St} {b : Int32 × St} (C : Ok X cX12_addsRule 7 RX12 rmX12_addsRule (some .boolean)) (hb : iterP (fLX12_addsRule_7 x0) a0 = some b) (hy0 : ∀ s, b = s → V X (0, 0) s.2 56 [(0, .ref (x0)), (1, .int (s.1))] []) : V X (0, 0) a0.2.2.2 7 [(0, .ref (x0)), (1, .int (a0.1)), (2, .long (a0.2.1)), (4, .int (a0.2.2.1))] [] := by
  obtain ⟨n, hn⟩ := iterP_some hb
  refine x_loop (P := fun a => V X (0, 0) a.2.2.2 7 [(0, .ref (x0)), (1, .int (a.1)), (2, .long (a.2.1)), (4, .int (a.2.2.1))] []) ?_ n a0 hn
  intro a c hf hK hxx
  have hx0 : ∀ s, c = Sum.inr s → V X (0, 0) s.2 56 [(0, .ref (x0)), (1, .int (s.1))] [] := fun s e => hy0 s (hxx _ e).symm
  unfold fLX12_addsRule_7 at hf
  refine x_aload_n C dX12_addsRule_7 8 rfl 0 rfl rfl ?_
  refine x_iload C dX12_addsRule_8 10 rfl 3 rfl ?_
  obtain ⟨o10, ho10, hf⟩ := x_bind hf
  obtain ⟨w10, hw10, hf⟩ := x_bind hf
  refine x_callVi C dX12_addsRule_10 13 rfl ho10 cl11.1 rfl (cX12_overlapsc hw10) kX12_overlaps kvX12_overlaps w1780 ⟨rfl, rfl⟩ ⟨Nat.le_of_ble_eq_true rfl, Nat.le_of_ble_eq_true rfl⟩ ⟨Nat.zero_le _, Nat.zero_le _⟩ rfl rfl (Nat.le_of_ble_eq_true rfl) ?_
  refine x_if_eq C dX12_addsRule_13 56 (by decide) 16 rfl (fun hc => ?_) (fun hc => ?_)
  · have hf := (if_pos hc).symm.trans hf
    refine x_lv [0, 1] (lv' := [(0, .ref (x0)), (1, .int (a.1))]) rfl ?_
    exact hx0 _ (Option.some.inj hf).symm
  · have hf := (if_neg hc).symm.trans hf
    refine x_aload_n C dX12_addsRule_16 17 rfl 0 rfl rfl ?_
    obtain ⟨v17, hv17, hf⟩ := x_bind hf
    refine x_getL C dX12_addsRule_17 20 rfl hv17 cl11 rfl w1474 ?_
    refine x_lstore C dX12_addsRule_20 22 rfl rfl [(5, .long (v17)), (0, .ref (x0)), (1, .int (a.1)), (2, .long (a.2.1)), (4, .int (a.2.2.1))] rfl ?_
    refine x_aload_n C dX12_addsRule_22 23 rfl 1 rfl rfl ?_
    obtain ⟨o23, ho23, hf⟩ := x_bind hf
    obtain ⟨w23, hw23, hf⟩ := x_bind hf
    refine x_callVi C dX12_addsRule_23 26 rfl ho23 cl11.1 rfl (cX12_closesc hw23) kX12_closes kvX12_closes w1798 ⟨rfl, rfl⟩ ⟨Nat.le_of_ble_eq_true rfl, Nat.le_of_ble_eq_true rfl⟩ ⟨Nat.zero_le _, Nat.zero_le _⟩ rfl rfl (Nat.le_of_ble_eq_true rfl) ?_
    refine x_if_ne C dX12_addsRule_26 50 (by decide) 29 rfl (fun hc => ?_) (fun hc => ?_)
    · have hf := (if_neg hc).symm.trans hf
      obtain ⟨v50, ev50, hf⟩ := xlet_some hf
      refine x_iinc C dX12_addsRule_50 53 rfl 4 rfl v50 ev50 rfl [(4, .int (v50)), (5, .long (v17)), (0, .ref (x0)), (1, .int (a.1)), (2, .long (a.2.1))] rfl ?_
      refine x_goto C dX12_addsRule_53 7 (by decide) ?_
      refine x_lv [2, 3, 4, 0] (lv' := [(0, .ref (x0)), (1, .int (a.1)), (2, .long (a.2.1)), (4, .int (v50))]) rfl ?_
      exact hK _ (Option.some.inj hf).symm
    · have hf := (if_pos hc).symm.trans hf
      refine x_iload_n C dX12_addsRule_29 30 rfl 2 rfl rfl ?_
      refine x_iconst C dX12_addsRule_30 31 rfl (-1) (by decide) ?_
      refine x_icmp_eq C dX12_addsRule_31 44 (by decide) 34 rfl (fun hc => ?_) (fun hc => ?_)
      · have hf := (if_pos hc).symm.trans hf
        refine x_iload C dX12_addsRule_44 46 rfl 4 rfl ?_
        refine x_istore_n C dX12_addsRule_46 47 rfl rfl rfl [(1, .int (a.2.2.1)), (5, .long (v17)), (0, .ref (x0)), (2, .long (a.2.1)), (4, .int (a.2.2.1))] rfl ?_
        refine x_lload C dX12_addsRule_47 49 rfl 1 rfl ?_
        refine x_lstore_n C dX12_addsRule_49 50 rfl rfl rfl [(2, .long (v17)), (1, .int (a.2.2.1)), (5, .long (v17)), (0, .ref (x0)), (4, .int (a.2.2.1))] rfl ?_
        obtain ⟨v50, ev50, hf⟩ := xlet_some hf
        refine x_iinc C dX12_addsRule_50 53 rfl 4 rfl v50 ev50 rfl [(4, .int (v50)), (2, .long (v17)), (1, .int (a.2.2.1)), (5, .long (v17)), (0, .ref (x0))] rfl ?_
        refine x_goto C dX12_addsRule_53 7 (by decide) ?_
        refine x_lv [4, 2, 1, 0] (lv' := [(0, .ref (x0)), (1, .int (a.2.2.1)), (2, .long (v17)), (4, .int (v50))]) rfl ?_
        exact hK _ (Option.some.inj hf).symm
      · have hf := (if_neg hc).symm.trans hf
        refine x_aload_n C dX12_addsRule_34 35 rfl 1 rfl rfl ?_
        refine x_lload_n C dX12_addsRule_35 36 rfl 3 rfl rfl ?_
        refine x_lload C dX12_addsRule_36 38 rfl 0 rfl ?_
        obtain ⟨o38, ho38, hf⟩ := x_bind hf
        obtain ⟨w38, hw38, hf⟩ := x_bind hf
        refine x_callVi C dX12_addsRule_38 41 rfl ho38 cl11.1 rfl (cX12_comparedc hw38) kX12_compared kvX12_compared w1760 ⟨rfl, rfl⟩ ⟨Nat.le_of_ble_eq_true rfl, Nat.le_of_ble_eq_true rfl⟩ ⟨Nat.zero_le _, Nat.zero_le _⟩ rfl rfl (Nat.le_of_ble_eq_true rfl) ?_
        refine x_if_le C dX12_addsRule_41 50 (by decide) 44 rfl (fun hc => ?_) (fun hc => ?_)
        · have hf := (if_pos hc).symm.trans hf
          obtain ⟨v50, ev50, hf⟩ := xlet_some hf
          refine x_iinc C dX12_addsRule_50 53 rfl 4 rfl v50 ev50 rfl [(4, .int (v50)), (5, .long (v17)), (0, .ref (x0)), (1, .int (a.1)), (2, .long (a.2.1))] rfl ?_
          refine x_goto C dX12_addsRule_53 7 (by decide) ?_
          refine x_lv [2, 3, 4, 0] (lv' := [(0, .ref (x0)), (1, .int (a.1)), (2, .long (a.2.1)), (4, .int (v50))]) rfl ?_
          exact hK _ (Option.some.inj hf).symm
        · have hf := (if_neg hc).symm.trans hf
          refine x_iload C dX12_addsRule_44 46 rfl 4 rfl ?_
          refine x_istore_n C dX12_addsRule_46 47 rfl rfl rfl [(1, .int (a.2.2.1)), (5, .long (v17)), (0, .ref (x0)), (2, .long (a.2.1)), (4, .int (a.2.2.1))] rfl ?_
          refine x_lload C dX12_addsRule_47 49 rfl 1 rfl ?_
          refine x_lstore_n C dX12_addsRule_49 50 rfl rfl rfl [(2, .long (v17)), (1, .int (a.2.2.1)), (5, .long (v17)), (0, .ref (x0)), (4, .int (a.2.2.1))] rfl ?_
          obtain ⟨v50, ev50, hf⟩ := xlet_some hf
          refine x_iinc C dX12_addsRule_50 53 rfl 4 rfl v50 ev50 rfl [(4, .int (v50)), (2, .long (v17)), (1, .int (a.2.2.1)), (5, .long (v17)), (0, .ref (x0))] rfl ?_
          refine x_goto C dX12_addsRule_53 7 (by decide) ?_
          refine x_lv [4, 2, 1, 0] (lv' := [(0, .ref (x0)), (1, .int (a.2.2.1)), (2, .long (v17)), (4, .int (v50))]) rfl ?_
          exact hK _ (Option.some.inj hf).symm
noncomputable def fJX12_addsRule_m_157 (σ : St) (x0 : Nat) (t0 : Int64) (t1 : Int32) (t2 : Nat) : Option ((Int32 × St)) :=
(sL σ t2 t1 t0).bind fun σ157 =>
(gR σ157 x0 11 1).bind fun v159 =>
(aL σ157 v159 1).bind fun v164 =>
(sL σ157 v159 1 (v164 + 1)).bind fun σ167 =>
some (1, σ167)
set_option maxHeartbeats 4000000 in
set_option maxRecDepth 100000 in
theorem jnX12_addsRule_m_157 {X : xX} {σ : St} {x0 : Nat} {t0 : Int64} {t1 : Int32} {t2 : Nat}  {c : (Int32 × St)} (C : Ok X cX12_addsRule 7 RX12 rmX12_addsRule (some .boolean)) (hf : fJX12_addsRule_m_157 σ x0 t0 t1 t2 = some c) (hE : ∀ r, c = r → xE1 X (some (.int r.1)) r.2) : V X (0, 0) σ 157 [(0, .ref (x0))] [.long (t0), .int (t1), .ref (t2)] := by
  unfold fJX12_addsRule_m_157 at hf
  obtain ⟨σ157, hσ157, hf⟩ := x_bind hf
  refine x_lastore C dX12_addsRule_157 158 rfl hσ157 ?_
  refine x_aload_n C dX12_addsRule_158 159 rfl 0 rfl rfl ?_
  obtain ⟨v159, hv159, hf⟩ := x_bind hf
  refine x_getR C dX12_addsRule_159 162 rfl hv159 cl11 rfl w1444 ?_
  refine x_iconst C dX12_addsRule_162 163 rfl 1 (by decide) ?_
  refine x_dup2 C dX12_addsRule_163 164 rfl rfl rfl ?_
  obtain ⟨v164, hv164, hf⟩ := x_bind hf
  refine x_laload C dX12_addsRule_164 165 rfl hv164 ?_
  refine x_lconst C dX12_addsRule_165 166 rfl 1 (by decide) ?_
  refine x_ladd C dX12_addsRule_166 167 rfl ?_
  obtain ⟨σ167, hσ167, hf⟩ := x_bind hf
  refine x_lastore C dX12_addsRule_167 168 rfl hσ167 ?_
  refine x_iconst C dX12_addsRule_168 169 rfl 1 (by decide) ?_
  exact x_zret C rfl (hE _ (Option.some.inj hf).symm) dX12_addsRule_169
noncomputable def fJX12_addsRule_m_131 (σ : St) (x0 : Nat) (x4 : Int32) (x5 : Int32) (t0 : Int64) (t1 : Int32) (t2 : Nat) : Option ((Int32 × St)) :=
(sL σ t2 t1 t0).bind fun σ131 =>
(gR σ131 x0 11 1).bind fun v133 =>
if x4 = 0 then
((gL σ131 x0 11 33).bind fun v154 =>
fJX12_addsRule_m_157 σ131 x0 v154 (24 + x5) v133)
else
((gL σ131 x0 11 34).bind fun v147 =>
fJX12_addsRule_m_157 σ131 x0 v147 (24 + x5) v133)
set_option maxHeartbeats 4000000 in
set_option maxRecDepth 100000 in
theorem jnX12_addsRule_m_131 {X : xX} {σ : St} {x0 : Nat} {x4 : Int32} {x5 : Int32} {t0 : Int64} {t1 : Int32} {t2 : Nat}  {c : (Int32 × St)} (C : Ok X cX12_addsRule 7 RX12 rmX12_addsRule (some .boolean)) (hf : fJX12_addsRule_m_131 σ x0 x4 x5 t0 t1 t2 = some c) (hE : ∀ r, c = r → xE1 X (some (.int r.1)) r.2) : V X (0, 0) σ 131 [(0, .ref (x0)), (4, .int (x4)), (5, .int (x5))] [.long (t0), .int (t1), .ref (t2)] := by
  unfold fJX12_addsRule_m_131 at hf
  obtain ⟨σ131, hσ131, hf⟩ := x_bind hf
  refine x_lastore C dX12_addsRule_131 132 rfl hσ131 ?_
  refine x_aload_n C dX12_addsRule_132 133 rfl 0 rfl rfl ?_
  obtain ⟨v133, hv133, hf⟩ := x_bind hf
  refine x_getR C dX12_addsRule_133 136 rfl hv133 cl11 rfl w1444 ?_
  refine x_bipush C dX12_addsRule_136 138 rfl 24 (by decide) ?_
  refine x_iload C dX12_addsRule_138 140 rfl 2 rfl ?_
  refine x_iadd C dX12_addsRule_140 141 rfl ?_
  refine x_iload C dX12_addsRule_141 143 rfl 1 rfl ?_
  refine x_if_eq C dX12_addsRule_143 153 (by decide) 146 rfl (fun hc => ?_) (fun hc => ?_)
  · have hf := (if_pos hc).symm.trans hf
    refine x_aload_n C dX12_addsRule_153 154 rfl 0 rfl rfl ?_
    obtain ⟨v154, hv154, hf⟩ := x_bind hf
    refine x_getL C dX12_addsRule_154 157 rfl hv154 cl11 rfl w1476 ?_
    refine x_lv [0] (lv' := [(0, .ref (x0))]) rfl ?_
    exact jnX12_addsRule_m_157 C hf hE
  · have hf := (if_neg hc).symm.trans hf
    refine x_aload_n C dX12_addsRule_146 147 rfl 0 rfl rfl ?_
    obtain ⟨v147, hv147, hf⟩ := x_bind hf
    refine x_getL C dX12_addsRule_147 150 rfl hv147 cl11 rfl w1477 ?_
    refine x_goto C dX12_addsRule_150 157 (by decide) ?_
    refine x_lv [0] (lv' := [(0, .ref (x0))]) rfl ?_
    exact jnX12_addsRule_m_157 C hf hE
noncomputable def fJX12_addsRule_m_98 (σ : St) (x0 : Nat) (t0 : Int32) : Option ((Int32 × St)) :=
(isO σ x0 11).bind fun _ =>
(fX12_rules σ x0).bind fun w101 =>
(gR σ x0 11 1).bind fun v107 =>
if t0 = 0 then
((gL σ x0 11 34).bind fun v128 =>
fJX12_addsRule_m_131 σ x0 t0 w101 v128 (12 + w101) v107)
else
((gL σ x0 11 33).bind fun v121 =>
fJX12_addsRule_m_131 σ x0 t0 w101 v121 (12 + w101) v107)
set_option maxHeartbeats 4000000 in
set_option maxRecDepth 100000 in
theorem jnX12_addsRule_m_98 {X : xX} {σ : St} {x0 : Nat} {t0 : Int32}  {c : (Int32 × St)} (C : Ok X cX12_addsRule 7 RX12 rmX12_addsRule (some .boolean)) (hf : fJX12_addsRule_m_98 σ x0 t0 = some c) (hE : ∀ r, c = r → xE1 X (some (.int r.1)) r.2) : V X (0, 0) σ 98 [(0, .ref (x0))] [.int (t0)] := by
  unfold fJX12_addsRule_m_98 at hf
  refine x_istore C dX12_addsRule_98 100 rfl rfl [(4, .int (t0)), (0, .ref (x0))] rfl ?_
  refine x_aload_n C dX12_addsRule_100 101 rfl 1 rfl rfl ?_
  obtain ⟨o101, ho101, hf⟩ := x_bind hf
  obtain ⟨w101, hw101, hf⟩ := x_bind hf
  refine x_callVi C dX12_addsRule_101 104 rfl ho101 cl11.1 rfl (cX12_rulesc hw101) kX12_rules kvX12_rules w1735 ⟨rfl, rfl⟩ ⟨Nat.le_of_ble_eq_true rfl, Nat.le_of_ble_eq_true rfl⟩ ⟨Nat.zero_le _, Nat.zero_le _⟩ rfl rfl (Nat.le_of_ble_eq_true rfl) ?_
  refine x_istore C dX12_addsRule_104 106 rfl rfl [(5, .int (w101)), (4, .int (t0)), (0, .ref (x0))] rfl ?_
  refine x_aload_n C dX12_addsRule_106 107 rfl 2 rfl rfl ?_
  obtain ⟨v107, hv107, hf⟩ := x_bind hf
  refine x_getR C dX12_addsRule_107 110 rfl hv107 cl11 rfl w1444 ?_
  refine x_bipush C dX12_addsRule_110 112 rfl 12 (by decide) ?_
  refine x_iload C dX12_addsRule_112 114 rfl 0 rfl ?_
  refine x_iadd C dX12_addsRule_114 115 rfl ?_
  refine x_iload C dX12_addsRule_115 117 rfl 1 rfl ?_
  refine x_if_eq C dX12_addsRule_117 127 (by decide) 120 rfl (fun hc => ?_) (fun hc => ?_)
  · have hf := (if_pos hc).symm.trans hf
    refine x_aload_n C dX12_addsRule_127 128 rfl 2 rfl rfl ?_
    obtain ⟨v128, hv128, hf⟩ := x_bind hf
    refine x_getL C dX12_addsRule_128 131 rfl hv128 cl11 rfl w1477 ?_
    refine x_lv [2, 1, 0] (lv' := [(0, .ref (x0)), (4, .int (t0)), (5, .int (w101))]) rfl ?_
    exact jnX12_addsRule_m_131 C hf hE
  · have hf := (if_neg hc).symm.trans hf
    refine x_aload_n C dX12_addsRule_120 121 rfl 2 rfl rfl ?_
    obtain ⟨v121, hv121, hf⟩ := x_bind hf
    refine x_getL C dX12_addsRule_121 124 rfl hv121 cl11 rfl w1476 ?_
    refine x_goto C dX12_addsRule_124 131 (by decide) ?_
    refine x_lv [2, 1, 0] (lv' := [(0, .ref (x0)), (4, .int (t0)), (5, .int (w101))]) rfl ?_
    exact jnX12_addsRule_m_131 C hf hE
noncomputable def fX12_addsRule (σ : St) (x0 : Nat) : Option ((Int32 × St)) :=
(iterP (fLX12_addsRule_7 x0) ((-1), 0, 0, σ)).bind fun b7 =>
if b7.1 = (((-1) : Int32)) then
(some (0, b7.2))
else
((isO b7.2 x0 11).bind fun _ =>
(fX12_overlaps b7.2 x0 b7.1).bind fun w63 =>
if w63.1 = 0 then
(some (0, w63.2))
else
((isO w63.2 x0 11).bind fun _ =>
(fX12_closes w63.2 x0).bind fun w70 =>
if w70.1 = 0 then
((gL w70.2 x0 11 33).bind fun v80 =>
(gL w70.2 x0 11 34).bind fun v84 =>
(isO w70.2 x0 11).bind fun _ =>
(fX12_compared w70.2 x0 v80 v84).bind fun w87 =>
if w87 ≤ 0 then
(fJX12_addsRule_m_98 w70.2 x0 0)
else
(fJX12_addsRule_m_98 w70.2 x0 1))
else
(some (0, w70.2))))
set_option maxHeartbeats 4000000 in
set_option maxRecDepth 100000 in
theorem cX12_addsRulec {l : Launch} {G : xG} {A : Nat → Prop} {σ : St} {x0 : Nat} {c : (Int32 × St)} (hf : fX12_addsRule σ x0 = some c) : Con l yX12_addsRule (xws yX12_addsRule cX12_addsRule 7 (some .boolean)) rmX12_addsRule [.ref (x0)] G A σ (some (.int c.1)) c.2 := by
  refine x_start rfl (Nat.le_of_ble_eq_true rfl) (fun X _ _ _ C hE0 => ?_)
  have hE : ∀ r, c = r → xE1 X (some (.int r.1)) r.2 := fun r e => e ▸ hE0
  show V X (0, 0) σ 0 [(0, .ref (x0))] []
  unfold fX12_addsRule at hf
  refine x_iconst C dX12_addsRule_0 1 rfl (-1) (by decide) ?_
  refine x_istore_n C dX12_addsRule_1 2 rfl rfl rfl [(1, .int ((-1))), (0, .ref (x0))] rfl ?_
  refine x_lconst C dX12_addsRule_2 3 rfl 0 (by decide) ?_
  refine x_lstore_n C dX12_addsRule_3 4 rfl rfl rfl [(2, .long (0)), (1, .int ((-1))), (0, .ref (x0))] rfl ?_
  refine x_iconst C dX12_addsRule_4 5 rfl 0 (by decide) ?_
  refine x_istore C dX12_addsRule_5 7 rfl rfl [(4, .int (0)), (2, .long (0)), (1, .int ((-1))), (0, .ref (x0))] rfl ?_
  obtain ⟨b7, hb7, hf⟩ := x_bind hf
  refine x_lv [3, 2, 1, 0] (lv' := [(0, .ref (x0)), (1, .int ((-1))), (2, .long (0)), (4, .int (0))]) rfl ?_
  refine lpX12_addsRule_7 C hb7 (fun s7 e7 => ?_)
  subst e7
  refine x_iload_n C dX12_addsRule_56 57 rfl 1 rfl rfl ?_
  refine x_iconst C dX12_addsRule_57 58 rfl (-1) (by decide) ?_
  refine x_icmp_eq C dX12_addsRule_58 76 (by decide) 61 rfl (fun hc => ?_) (fun hc => ?_)
  · have hf := (if_pos hc).symm.trans hf
    refine x_iconst C dX12_addsRule_76 77 rfl 0 (by decide) ?_
    exact x_zret C rfl (hE _ (Option.some.inj hf).symm) dX12_addsRule_77
  · have hf := (if_neg hc).symm.trans hf
    refine x_aload_n C dX12_addsRule_61 62 rfl 0 rfl rfl ?_
    refine x_iload_n C dX12_addsRule_62 63 rfl 1 rfl rfl ?_
    obtain ⟨o63, ho63, hf⟩ := x_bind hf
    obtain ⟨w63, hw63, hf⟩ := x_bind hf
    refine x_callVi C dX12_addsRule_63 66 rfl ho63 cl11.1 rfl (cX12_overlapsc hw63) kX12_overlaps kvX12_overlaps w1780 ⟨rfl, rfl⟩ ⟨Nat.le_of_ble_eq_true rfl, Nat.le_of_ble_eq_true rfl⟩ ⟨Nat.zero_le _, Nat.zero_le _⟩ rfl rfl (Nat.le_of_ble_eq_true rfl) ?_
    refine x_if_eq C dX12_addsRule_66 76 (by decide) 69 rfl (fun hc => ?_) (fun hc => ?_)
    · have hf := (if_pos hc).symm.trans hf
      refine x_iconst C dX12_addsRule_76 77 rfl 0 (by decide) ?_
      exact x_zret C rfl (hE _ (Option.some.inj hf).symm) dX12_addsRule_77
    · have hf := (if_neg hc).symm.trans hf
      refine x_aload_n C dX12_addsRule_69 70 rfl 0 rfl rfl ?_
      obtain ⟨o70, ho70, hf⟩ := x_bind hf
      obtain ⟨w70, hw70, hf⟩ := x_bind hf
      refine x_callVi C dX12_addsRule_70 73 rfl ho70 cl11.1 rfl (cX12_closesc hw70) kX12_closes kvX12_closes w1798 ⟨rfl, rfl⟩ ⟨Nat.le_of_ble_eq_true rfl, Nat.le_of_ble_eq_true rfl⟩ ⟨Nat.zero_le _, Nat.zero_le _⟩ rfl rfl (Nat.le_of_ble_eq_true rfl) ?_
      refine x_if_eq C dX12_addsRule_73 78 (by decide) 76 rfl (fun hc => ?_) (fun hc => ?_)
      · have hf := (if_pos hc).symm.trans hf
        refine x_aload_n C dX12_addsRule_78 79 rfl 0 rfl rfl ?_
        refine x_aload_n C dX12_addsRule_79 80 rfl 0 rfl rfl ?_
        obtain ⟨v80, hv80, hf⟩ := x_bind hf
        refine x_getL C dX12_addsRule_80 83 rfl hv80 cl11 rfl w1476 ?_
        refine x_aload_n C dX12_addsRule_83 84 rfl 0 rfl rfl ?_
        obtain ⟨v84, hv84, hf⟩ := x_bind hf
        refine x_getL C dX12_addsRule_84 87 rfl hv84 cl11 rfl w1477 ?_
        obtain ⟨o87, ho87, hf⟩ := x_bind hf
        obtain ⟨w87, hw87, hf⟩ := x_bind hf
        refine x_callVi C dX12_addsRule_87 90 rfl ho87 cl11.1 rfl (cX12_comparedc hw87) kX12_compared kvX12_compared w1760 ⟨rfl, rfl⟩ ⟨Nat.le_of_ble_eq_true rfl, Nat.le_of_ble_eq_true rfl⟩ ⟨Nat.zero_le _, Nat.zero_le _⟩ rfl rfl (Nat.le_of_ble_eq_true rfl) ?_
        refine x_if_le C dX12_addsRule_90 97 (by decide) 93 rfl (fun hc => ?_) (fun hc => ?_)
        · have hf := (if_pos hc).symm.trans hf
          refine x_iconst C dX12_addsRule_97 98 rfl 0 (by decide) ?_
          refine x_lv [0] (lv' := [(0, .ref (x0))]) rfl ?_
          exact jnX12_addsRule_m_98 C hf hE
        · have hf := (if_neg hc).symm.trans hf
          refine x_iconst C dX12_addsRule_93 94 rfl 1 (by decide) ?_
          refine x_goto C dX12_addsRule_94 98 (by decide) ?_
          refine x_lv [0] (lv' := [(0, .ref (x0))]) rfl ?_
          exact jnX12_addsRule_m_98 C hf hE
      · have hf := (if_neg hc).symm.trans hf
        refine x_iconst C dX12_addsRule_76 77 rfl 0 (by decide) ?_
        exact x_zret C rfl (hE _ (Option.some.inj hf).symm) dX12_addsRule_77
theorem dX12_isNamed_0 : decode cX12_isNamed 0 = .ok (.lload_n 1, 1) := by decide +kernel
theorem dX12_isNamed_1 : decode cX12_isNamed 1 = .ok (.invokestatic 136, 3) := by decide +kernel
theorem dX12_isNamed_4 : decode cX12_isNamed 4 = .ok (.istore 6, 2) := by decide +kernel
theorem dX12_isNamed_6 : decode cX12_isNamed 6 = .ok (.iload 6, 2) := by decide +kernel
theorem dX12_isNamed_8 : decode cX12_isNamed 8 = .ok (.lload_n 3, 1) := by decide +kernel
theorem dX12_isNamed_9 : decode cX12_isNamed 9 = .ok (.invokestatic 136, 3) := by decide +kernel
theorem dX12_isNamed_12 : decode cX12_isNamed 12 = .ok (.if_icmp .eq 5, 3) := by decide +kernel
theorem dX12_isNamed_15 : decode cX12_isNamed 15 = .ok (.iconst 0, 1) := by decide +kernel
theorem dX12_isNamed_16 : decode cX12_isNamed 16 = .ok (.ireturn, 1) := by decide +kernel
theorem dX12_isNamed_17 : decode cX12_isNamed 17 = .ok (.iconst 0, 1) := by decide +kernel
theorem dX12_isNamed_18 : decode cX12_isNamed 18 = .ok (.istore 7, 2) := by decide +kernel
theorem dX12_isNamed_20 : decode cX12_isNamed 20 = .ok (.iload 7, 2) := by decide +kernel
theorem dX12_isNamed_22 : decode cX12_isNamed 22 = .ok (.iload 6, 2) := by decide +kernel
theorem dX12_isNamed_24 : decode cX12_isNamed 24 = .ok (.if_icmp .ge 128, 3) := by decide +kernel
theorem dX12_isNamed_27 : decode cX12_isNamed 27 = .ok (.lload_n 1, 1) := by decide +kernel
theorem dX12_isNamed_28 : decode cX12_isNamed 28 = .ok (.iload 7, 2) := by decide +kernel
theorem dX12_isNamed_30 : decode cX12_isNamed 30 = .ok (.invokestatic 160, 3) := by decide +kernel
theorem dX12_isNamed_33 : decode cX12_isNamed 33 = .ok (.istore 8, 2) := by decide +kernel
theorem dX12_isNamed_35 : decode cX12_isNamed 35 = .ok (.lload_n 3, 1) := by decide +kernel
theorem dX12_isNamed_36 : decode cX12_isNamed 36 = .ok (.iload 5, 2) := by decide +kernel
theorem dX12_isNamed_38 : decode cX12_isNamed 38 = .ok (.ifCond .eq 13, 3) := by decide +kernel
theorem dX12_isNamed_41 : decode cX12_isNamed 41 = .ok (.iload 6, 2) := by decide +kernel
theorem dX12_isNamed_43 : decode cX12_isNamed 43 = .ok (.iconst 1, 1) := by decide +kernel
theorem dX12_isNamed_44 : decode cX12_isNamed 44 = .ok (.isub, 1) := by decide +kernel
theorem dX12_isNamed_45 : decode cX12_isNamed 45 = .ok (.iload 7, 2) := by decide +kernel
theorem dX12_isNamed_47 : decode cX12_isNamed 47 = .ok (.isub, 1) := by decide +kernel
theorem dX12_isNamed_48 : decode cX12_isNamed 48 = .ok (.goto 5, 3) := by decide +kernel
theorem dX12_isNamed_51 : decode cX12_isNamed 51 = .ok (.iload 7, 2) := by decide +kernel
theorem dX12_isNamed_53 : decode cX12_isNamed 53 = .ok (.invokestatic 160, 3) := by decide +kernel
theorem dX12_isNamed_56 : decode cX12_isNamed 56 = .ok (.istore 9, 2) := by decide +kernel
theorem dX12_isNamed_58 : decode cX12_isNamed 58 = .ok (.iconst 0, 1) := by decide +kernel
theorem dX12_isNamed_59 : decode cX12_isNamed 59 = .ok (.istore 10, 2) := by decide +kernel
theorem dX12_isNamed_61 : decode cX12_isNamed 61 = .ok (.iconst 0, 1) := by decide +kernel
theorem dX12_isNamed_62 : decode cX12_isNamed 62 = .ok (.istore 11, 2) := by decide +kernel
theorem dX12_isNamed_64 : decode cX12_isNamed 64 = .ok (.iload 11, 2) := by decide +kernel
theorem dX12_isNamed_66 : decode cX12_isNamed 66 = .ok (.iconst 5, 1) := by decide +kernel
theorem dX12_isNamed_67 : decode cX12_isNamed 67 = .ok (.if_icmp .ge 40, 3) := by decide +kernel
theorem dX12_isNamed_70 : decode cX12_isNamed 70 = .ok (.iload 10, 2) := by decide +kernel
theorem dX12_isNamed_72 : decode cX12_isNamed 72 = .ok (.ifCond .ne 22, 3) := by decide +kernel
theorem dX12_isNamed_75 : decode cX12_isNamed 75 = .ok (.iload 11, 2) := by decide +kernel
theorem dX12_isNamed_77 : decode cX12_isNamed 77 = .ok (.iload 8, 2) := by decide +kernel
theorem dX12_isNamed_79 : decode cX12_isNamed 79 = .ok (.if_icmp .eq 19, 3) := by decide +kernel
theorem dX12_isNamed_82 : decode cX12_isNamed 82 = .ok (.aload_n 0, 1) := by decide +kernel
theorem dX12_isNamed_83 : decode cX12_isNamed 83 = .ok (.getfield 55, 3) := by decide +kernel
theorem dX12_isNamed_86 : decode cX12_isNamed 86 = .ok (.iload 11, 2) := by decide +kernel
theorem dX12_isNamed_88 : decode cX12_isNamed 88 = .ok (.iaload, 1) := by decide +kernel
theorem dX12_isNamed_89 : decode cX12_isNamed 89 = .ok (.iload 9, 2) := by decide +kernel
theorem dX12_isNamed_91 : decode cX12_isNamed 91 = .ok (.if_icmp .ne 7, 3) := by decide +kernel
theorem dX12_isNamed_94 : decode cX12_isNamed 94 = .ok (.iconst 1, 1) := by decide +kernel
theorem dX12_isNamed_95 : decode cX12_isNamed 95 = .ok (.goto 4, 3) := by decide +kernel
theorem dX12_isNamed_98 : decode cX12_isNamed 98 = .ok (.iconst 0, 1) := by decide +kernel
theorem dX12_isNamed_99 : decode cX12_isNamed 99 = .ok (.istore 10, 2) := by decide +kernel
theorem dX12_isNamed_101 : decode cX12_isNamed 101 = .ok (.iinc 11 1, 3) := by decide +kernel
theorem dX12_isNamed_104 : decode cX12_isNamed 104 = .ok (.goto (-40), 3) := by decide +kernel
theorem dX12_isNamed_107 : decode cX12_isNamed 107 = .ok (.iload 10, 2) := by decide +kernel
theorem dX12_isNamed_109 : decode cX12_isNamed 109 = .ok (.ifCond .ne 26, 3) := by decide +kernel
theorem dX12_isNamed_112 : decode cX12_isNamed 112 = .ok (.aload_n 0, 1) := by decide +kernel
theorem dX12_isNamed_113 : decode cX12_isNamed 113 = .ok (.getfield 55, 3) := by decide +kernel
theorem dX12_isNamed_116 : decode cX12_isNamed 116 = .ok (.iload 8, 2) := by decide +kernel
theorem dX12_isNamed_118 : decode cX12_isNamed 118 = .ok (.iaload, 1) := by decide +kernel
theorem dX12_isNamed_119 : decode cX12_isNamed 119 = .ok (.iconst (-1), 1) := by decide +kernel
theorem dX12_isNamed_120 : decode cX12_isNamed 120 = .ok (.if_icmp .eq 17, 3) := by decide +kernel
theorem dX12_isNamed_123 : decode cX12_isNamed 123 = .ok (.aload_n 0, 1) := by decide +kernel
theorem dX12_isNamed_124 : decode cX12_isNamed 124 = .ok (.getfield 55, 3) := by decide +kernel
theorem dX12_isNamed_127 : decode cX12_isNamed 127 = .ok (.iload 8, 2) := by decide +kernel
theorem dX12_isNamed_129 : decode cX12_isNamed 129 = .ok (.iaload, 1) := by decide +kernel
theorem dX12_isNamed_130 : decode cX12_isNamed 130 = .ok (.iload 9, 2) := by decide +kernel
theorem dX12_isNamed_132 : decode cX12_isNamed 132 = .ok (.if_icmp .eq 5, 3) := by decide +kernel
theorem dX12_isNamed_135 : decode cX12_isNamed 135 = .ok (.iconst 0, 1) := by decide +kernel
theorem dX12_isNamed_136 : decode cX12_isNamed 136 = .ok (.ireturn, 1) := by decide +kernel
theorem dX12_isNamed_137 : decode cX12_isNamed 137 = .ok (.aload_n 0, 1) := by decide +kernel
theorem dX12_isNamed_138 : decode cX12_isNamed 138 = .ok (.getfield 55, 3) := by decide +kernel
theorem dX12_isNamed_141 : decode cX12_isNamed 141 = .ok (.iload 8, 2) := by decide +kernel
theorem dX12_isNamed_143 : decode cX12_isNamed 143 = .ok (.iload 9, 2) := by decide +kernel
theorem dX12_isNamed_145 : decode cX12_isNamed 145 = .ok (.iastore, 1) := by decide +kernel
theorem dX12_isNamed_146 : decode cX12_isNamed 146 = .ok (.iinc 7 1, 3) := by decide +kernel
theorem dX12_isNamed_149 : decode cX12_isNamed 149 = .ok (.goto (-129), 3) := by decide +kernel
theorem dX12_isNamed_152 : decode cX12_isNamed 152 = .ok (.iconst 1, 1) := by decide +kernel
theorem dX12_isNamed_153 : decode cX12_isNamed 153 = .ok (.ireturn, 1) := by decide +kernel
abbrev rmX12_isNamed : Room := { frames := 3, cells := 0, slots := 0, locals := 69 }
noncomputable def fLX12_isNamed_64 (σ : St) (x0 : Nat) (x1 : Int64) (x3 : Int64) (x5 : Int32) (x6 : Int32) (x7 : Int32) (x8 : Int32) (x9 : Int32) (a : Int32 × Int32) : Option ((Int32 × Int32) ⊕ (Int32)) :=
if ((5 : Int32)) ≤ a.2 then
(some (Sum.inr a.1))
else
(if a.1 = 0 then
(if a.2 = x8 then
(xlet (a.2 + 1) fun v101 =>
some (Sum.inl (0, v101)))
else
((gR σ x0 11 36).bind fun v83 =>
(aI σ v83 0 a.2).bind fun v88 =>
if v88 = x9 then
(xlet (a.2 + 1) fun v101 =>
some (Sum.inl (1, v101)))
else
(xlet (a.2 + 1) fun v101 =>
some (Sum.inl (0, v101)))))
else
(xlet (a.2 + 1) fun v101 =>
some (Sum.inl (1, v101))))
set_option maxHeartbeats 4000000 in
set_option maxRecDepth 100000 in
theorem lpX12_isNamed_64 {X : xX} {σ : St} {x0 : Nat} {x1 : Int64} {x3 : Int64} {x5 : Int32} {x6 : Int32} {x7 : Int32} {x8 : Int32} {x9 : Int32}  {a0 : Int32 × Int32} {b : Int32} (C : Ok X cX12_isNamed 12 RX12 rmX12_isNamed (some .boolean)) (hb : iterP (fLX12_isNamed_64 σ x0 x1 x3 x5 x6 x7 x8 x9) a0 = some b) (hy0 : ∀ s, b = s → V X (0, 0) σ 107 [(0, .ref (x0)), (1, .long (x1)), (3, .long (x3)), (5, .int (x5)), (6, .int (x6)), (7, .int (x7)), (8, .int (x8)), (9, .int (x9)), (10, .int (s))] []) : V X (0, 0) σ 64 [(0, .ref (x0)), (1, .long (x1)), (3, .long (x3)), (5, .int (x5)), (6, .int (x6)), (7, .int (x7)), (8, .int (x8)), (9, .int (x9)), (10, .int (a0.1)), (11, .int (a0.2))] [] := by
  obtain ⟨n, hn⟩ := iterP_some hb
  refine x_loop (P := fun a => V X (0, 0) σ 64 [(0, .ref (x0)), (1, .long (x1)), (3, .long (x3)), (5, .int (x5)), (6, .int (x6)), (7, .int (x7)), (8, .int (x8)), (9, .int (x9)), (10, .int (a.1)), (11, .int (a.2))] []) ?_ n a0 hn
  intro a c hf hK hxx
  have hx0 : ∀ s, c = Sum.inr s → V X (0, 0) σ 107 [(0, .ref (x0)), (1, .long (x1)), (3, .long (x3)), (5, .int (x5)), (6, .int (x6)), (7, .int (x7)), (8, .int (x8)), (9, .int (x9)), (10, .int (s))] [] := fun s e => hy0 s (hxx _ e).symm
  unfold fLX12_isNamed_64 at hf
  refine x_iload C dX12_isNamed_64 66 rfl 9 rfl ?_
  refine x_iconst C dX12_isNamed_66 67 rfl 5 (by decide) ?_
  refine x_icmp_ge C dX12_isNamed_67 107 (by decide) 70 rfl (fun hc => ?_) (fun hc => ?_)
  · have hf := (if_pos hc).symm.trans hf
    refine x_lv [0, 1, 2, 3, 4, 5, 6, 7, 8] (lv' := [(0, .ref (x0)), (1, .long (x1)), (3, .long (x3)), (5, .int (x5)), (6, .int (x6)), (7, .int (x7)), (8, .int (x8)), (9, .int (x9)), (10, .int (a.1))]) rfl ?_
    exact hx0 _ (Option.some.inj hf).symm
  · have hf := (if_neg hc).symm.trans hf
    refine x_iload C dX12_isNamed_70 72 rfl 8 rfl ?_
    refine x_if_ne C dX12_isNamed_72 94 (by decide) 75 rfl (fun hc => ?_) (fun hc => ?_)
    · have hf := (if_neg hc).symm.trans hf
      refine x_iconst C dX12_isNamed_94 95 rfl 1 (by decide) ?_
      refine x_goto C dX12_isNamed_95 99 (by decide) ?_
      refine x_istore C dX12_isNamed_99 101 rfl rfl [(10, .int (1)), (0, .ref (x0)), (1, .long (x1)), (3, .long (x3)), (5, .int (x5)), (6, .int (x6)), (7, .int (x7)), (8, .int (x8)), (9, .int (x9)), (11, .int (a.2))] rfl ?_
      obtain ⟨v101, ev101, hf⟩ := xlet_some hf
      refine x_iinc C dX12_isNamed_101 104 rfl 9 rfl v101 ev101 rfl [(11, .int (v101)), (10, .int (1)), (0, .ref (x0)), (1, .long (x1)), (3, .long (x3)), (5, .int (x5)), (6, .int (x6)), (7, .int (x7)), (8, .int (x8)), (9, .int (x9))] rfl ?_
      refine x_goto C dX12_isNamed_104 64 (by decide) ?_
      refine x_lv [2, 3, 4, 5, 6, 7, 8, 9, 1, 0] (lv' := [(0, .ref (x0)), (1, .long (x1)), (3, .long (x3)), (5, .int (x5)), (6, .int (x6)), (7, .int (x7)), (8, .int (x8)), (9, .int (x9)), (10, .int (1)), (11, .int (v101))]) rfl ?_
      exact hK _ (Option.some.inj hf).symm
    · have hf := (if_pos hc).symm.trans hf
      refine x_iload C dX12_isNamed_75 77 rfl 9 rfl ?_
      refine x_iload C dX12_isNamed_77 79 rfl 6 rfl ?_
      refine x_icmp_eq C dX12_isNamed_79 98 (by decide) 82 rfl (fun hc => ?_) (fun hc => ?_)
      · have hf := (if_pos hc).symm.trans hf
        refine x_iconst C dX12_isNamed_98 99 rfl 0 (by decide) ?_
        refine x_istore C dX12_isNamed_99 101 rfl rfl [(10, .int (0)), (0, .ref (x0)), (1, .long (x1)), (3, .long (x3)), (5, .int (x5)), (6, .int (x6)), (7, .int (x7)), (8, .int (x8)), (9, .int (x9)), (11, .int (a.2))] rfl ?_
        obtain ⟨v101, ev101, hf⟩ := xlet_some hf
        refine x_iinc C dX12_isNamed_101 104 rfl 9 rfl v101 ev101 rfl [(11, .int (v101)), (10, .int (0)), (0, .ref (x0)), (1, .long (x1)), (3, .long (x3)), (5, .int (x5)), (6, .int (x6)), (7, .int (x7)), (8, .int (x8)), (9, .int (x9))] rfl ?_
        refine x_goto C dX12_isNamed_104 64 (by decide) ?_
        refine x_lv [2, 3, 4, 5, 6, 7, 8, 9, 1, 0] (lv' := [(0, .ref (x0)), (1, .long (x1)), (3, .long (x3)), (5, .int (x5)), (6, .int (x6)), (7, .int (x7)), (8, .int (x8)), (9, .int (x9)), (10, .int (0)), (11, .int (v101))]) rfl ?_
        exact hK _ (Option.some.inj hf).symm
      · have hf := (if_neg hc).symm.trans hf
        refine x_aload_n C dX12_isNamed_82 83 rfl 0 rfl rfl ?_
        obtain ⟨v83, hv83, hf⟩ := x_bind hf
        refine x_getR C dX12_isNamed_83 86 rfl hv83 cl11 rfl w1479 ?_
        refine x_iload C dX12_isNamed_86 88 rfl 9 rfl ?_
        obtain ⟨v88, hv88, hf⟩ := x_bind hf
        refine x_iaload C dX12_isNamed_88 89 rfl hv88 ?_
        refine x_iload C dX12_isNamed_89 91 rfl 7 rfl ?_
        refine x_icmp_ne C dX12_isNamed_91 98 (by decide) 94 rfl (fun hc => ?_) (fun hc => ?_)
        · have hf := (if_neg hc).symm.trans hf
          refine x_iconst C dX12_isNamed_98 99 rfl 0 (by decide) ?_
          refine x_istore C dX12_isNamed_99 101 rfl rfl [(10, .int (0)), (0, .ref (x0)), (1, .long (x1)), (3, .long (x3)), (5, .int (x5)), (6, .int (x6)), (7, .int (x7)), (8, .int (x8)), (9, .int (x9)), (11, .int (a.2))] rfl ?_
          obtain ⟨v101, ev101, hf⟩ := xlet_some hf
          refine x_iinc C dX12_isNamed_101 104 rfl 9 rfl v101 ev101 rfl [(11, .int (v101)), (10, .int (0)), (0, .ref (x0)), (1, .long (x1)), (3, .long (x3)), (5, .int (x5)), (6, .int (x6)), (7, .int (x7)), (8, .int (x8)), (9, .int (x9))] rfl ?_
          refine x_goto C dX12_isNamed_104 64 (by decide) ?_
          refine x_lv [2, 3, 4, 5, 6, 7, 8, 9, 1, 0] (lv' := [(0, .ref (x0)), (1, .long (x1)), (3, .long (x3)), (5, .int (x5)), (6, .int (x6)), (7, .int (x7)), (8, .int (x8)), (9, .int (x9)), (10, .int (0)), (11, .int (v101))]) rfl ?_
          exact hK _ (Option.some.inj hf).symm
        · have hf := (if_pos hc).symm.trans hf
          refine x_iconst C dX12_isNamed_94 95 rfl 1 (by decide) ?_
          refine x_goto C dX12_isNamed_95 99 (by decide) ?_
          refine x_istore C dX12_isNamed_99 101 rfl rfl [(10, .int (1)), (0, .ref (x0)), (1, .long (x1)), (3, .long (x3)), (5, .int (x5)), (6, .int (x6)), (7, .int (x7)), (8, .int (x8)), (9, .int (x9)), (11, .int (a.2))] rfl ?_
          obtain ⟨v101, ev101, hf⟩ := xlet_some hf
          refine x_iinc C dX12_isNamed_101 104 rfl 9 rfl v101 ev101 rfl [(11, .int (v101)), (10, .int (1)), (0, .ref (x0)), (1, .long (x1)), (3, .long (x3)), (5, .int (x5)), (6, .int (x6)), (7, .int (x7)), (8, .int (x8)), (9, .int (x9))] rfl ?_
          refine x_goto C dX12_isNamed_104 64 (by decide) ?_
          refine x_lv [2, 3, 4, 5, 6, 7, 8, 9, 1, 0] (lv' := [(0, .ref (x0)), (1, .long (x1)), (3, .long (x3)), (5, .int (x5)), (6, .int (x6)), (7, .int (x7)), (8, .int (x8)), (9, .int (x9)), (10, .int (1)), (11, .int (v101))]) rfl ?_
          exact hK _ (Option.some.inj hf).symm
noncomputable def fJX12_isNamed_20_53 (σ : St) (x0 : Nat) (x1 : Int64) (x3 : Int64) (x5 : Int32) (x6 : Int32) (x7 : Int32) (x8 : Int32) (t0 : Int32) (t1 : Int64) : Option ((Int32 × St) ⊕ ((St) ⊕ (St))) :=
(fX12_letterAt t1 t0).bind fun w53 =>
(iterP (fLX12_isNamed_64 σ x0 x1 x3 x5 x6 x7 x8 w53) (0, 0)).bind fun b64 =>
if b64 = 0 then
((gR σ x0 11 36).bind fun v113 =>
(aI σ v113 0 x8).bind fun v118 =>
if v118 = (((-1) : Int32)) then
((gR σ x0 11 36).bind fun v138 =>
(sI σ v138 x8 w53).bind fun σ145 =>
xlet (x7 + 1) fun v146 =>
some (Sum.inl (v146, σ145)))
else
((gR σ x0 11 36).bind fun v124 =>
(aI σ v124 0 x8).bind fun v129 =>
if v129 = w53 then
((gR σ x0 11 36).bind fun v138 =>
(sI σ v138 x8 w53).bind fun σ145 =>
xlet (x7 + 1) fun v146 =>
some (Sum.inl (v146, σ145)))
else
(some (Sum.inr (Sum.inl σ)))))
else
(some (Sum.inr (Sum.inl σ)))
set_option maxHeartbeats 4000000 in
set_option maxRecDepth 100000 in
theorem jnX12_isNamed_20_53 {X : xX} {σ : St} {x0 : Nat} {x1 : Int64} {x3 : Int64} {x5 : Int32} {x6 : Int32} {x7 : Int32} {x8 : Int32} {t0 : Int32} {t1 : Int64}  {c : (Int32 × St) ⊕ ((St) ⊕ (St))} (C : Ok X cX12_isNamed 12 RX12 rmX12_isNamed (some .boolean)) (hf : fJX12_isNamed_20_53 σ x0 x1 x3 x5 x6 x7 x8 t0 t1 = some c) (hK : ∀ a', c = Sum.inl a' → V X (0, 0) a'.2 20 [(0, .ref (x0)), (1, .long (x1)), (3, .long (x3)), (5, .int (x5)), (6, .int (x6)), (7, .int (a'.1))] []) (hx0 : ∀ s, c = Sum.inr (Sum.inl s) → V X (0, 0) s 135 [] []) (hx1 : ∀ s, c = Sum.inr (Sum.inr s) → V X (0, 0) s 152 [] []) : V X (0, 0) σ 53 [(0, .ref (x0)), (1, .long (x1)), (3, .long (x3)), (5, .int (x5)), (6, .int (x6)), (7, .int (x7)), (8, .int (x8))] [.int (t0), .long (t1)] := by
  unfold fJX12_isNamed_20_53 at hf
  obtain ⟨w53, hw53, hf⟩ := x_bind hf
  refine x_callSi C dX12_isNamed_53 56 rfl (cX12_letterAtc hw53) kX12_letterAt ksX12_letterAt w1722 ⟨rfl, rfl⟩ ⟨Nat.le_of_ble_eq_true rfl, Nat.le_of_ble_eq_true rfl⟩ ⟨Nat.zero_le _, Nat.zero_le _⟩ rfl rfl (Nat.le_of_ble_eq_true rfl) ?_
  refine x_istore C dX12_isNamed_56 58 rfl rfl [(9, .int (w53)), (0, .ref (x0)), (1, .long (x1)), (3, .long (x3)), (5, .int (x5)), (6, .int (x6)), (7, .int (x7)), (8, .int (x8))] rfl ?_
  refine x_iconst C dX12_isNamed_58 59 rfl 0 (by decide) ?_
  refine x_istore C dX12_isNamed_59 61 rfl rfl [(10, .int (0)), (9, .int (w53)), (0, .ref (x0)), (1, .long (x1)), (3, .long (x3)), (5, .int (x5)), (6, .int (x6)), (7, .int (x7)), (8, .int (x8))] rfl ?_
  refine x_iconst C dX12_isNamed_61 62 rfl 0 (by decide) ?_
  refine x_istore C dX12_isNamed_62 64 rfl rfl [(11, .int (0)), (10, .int (0)), (9, .int (w53)), (0, .ref (x0)), (1, .long (x1)), (3, .long (x3)), (5, .int (x5)), (6, .int (x6)), (7, .int (x7)), (8, .int (x8))] rfl ?_
  obtain ⟨b64, hb64, hf⟩ := x_bind hf
  refine x_lv [3, 4, 5, 6, 7, 8, 9, 2, 1, 0] (lv' := [(0, .ref (x0)), (1, .long (x1)), (3, .long (x3)), (5, .int (x5)), (6, .int (x6)), (7, .int (x7)), (8, .int (x8)), (9, .int (w53)), (10, .int (0)), (11, .int (0))]) rfl ?_
  refine lpX12_isNamed_64 C hb64 (fun s64 e64 => ?_)
  subst e64
  refine x_iload C dX12_isNamed_107 109 rfl 8 rfl ?_
  refine x_if_ne C dX12_isNamed_109 135 (by decide) 112 rfl (fun hc => ?_) (fun hc => ?_)
  · have hf := (if_neg hc).symm.trans hf
    refine x_lv [] (lv' := []) rfl ?_
    exact hx0 _ (Option.some.inj hf).symm
  · have hf := (if_pos hc).symm.trans hf
    refine x_aload_n C dX12_isNamed_112 113 rfl 0 rfl rfl ?_
    obtain ⟨v113, hv113, hf⟩ := x_bind hf
    refine x_getR C dX12_isNamed_113 116 rfl hv113 cl11 rfl w1479 ?_
    refine x_iload C dX12_isNamed_116 118 rfl 6 rfl ?_
    obtain ⟨v118, hv118, hf⟩ := x_bind hf
    refine x_iaload C dX12_isNamed_118 119 rfl hv118 ?_
    refine x_iconst C dX12_isNamed_119 120 rfl (-1) (by decide) ?_
    refine x_icmp_eq C dX12_isNamed_120 137 (by decide) 123 rfl (fun hc => ?_) (fun hc => ?_)
    · have hf := (if_pos hc).symm.trans hf
      refine x_aload_n C dX12_isNamed_137 138 rfl 0 rfl rfl ?_
      obtain ⟨v138, hv138, hf⟩ := x_bind hf
      refine x_getR C dX12_isNamed_138 141 rfl hv138 cl11 rfl w1479 ?_
      refine x_iload C dX12_isNamed_141 143 rfl 6 rfl ?_
      refine x_iload C dX12_isNamed_143 145 rfl 7 rfl ?_
      obtain ⟨σ145, hσ145, hf⟩ := x_bind hf
      refine x_iastore C dX12_isNamed_145 146 rfl hσ145 ?_
      obtain ⟨v146, ev146, hf⟩ := xlet_some hf
      refine x_iinc C dX12_isNamed_146 149 rfl 5 rfl v146 ev146 rfl [(7, .int (v146)), (0, .ref (x0)), (1, .long (x1)), (3, .long (x3)), (5, .int (x5)), (6, .int (x6)), (8, .int (x8)), (9, .int (w53)), (10, .int (b64))] rfl ?_
      refine x_goto C dX12_isNamed_149 20 (by decide) ?_
      refine x_lv [1, 2, 3, 4, 5, 0] (lv' := [(0, .ref (x0)), (1, .long (x1)), (3, .long (x3)), (5, .int (x5)), (6, .int (x6)), (7, .int (v146))]) rfl ?_
      exact hK _ (Option.some.inj hf).symm
    · have hf := (if_neg hc).symm.trans hf
      refine x_aload_n C dX12_isNamed_123 124 rfl 0 rfl rfl ?_
      obtain ⟨v124, hv124, hf⟩ := x_bind hf
      refine x_getR C dX12_isNamed_124 127 rfl hv124 cl11 rfl w1479 ?_
      refine x_iload C dX12_isNamed_127 129 rfl 6 rfl ?_
      obtain ⟨v129, hv129, hf⟩ := x_bind hf
      refine x_iaload C dX12_isNamed_129 130 rfl hv129 ?_
      refine x_iload C dX12_isNamed_130 132 rfl 7 rfl ?_
      refine x_icmp_eq C dX12_isNamed_132 137 (by decide) 135 rfl (fun hc => ?_) (fun hc => ?_)
      · have hf := (if_pos hc).symm.trans hf
        refine x_aload_n C dX12_isNamed_137 138 rfl 0 rfl rfl ?_
        obtain ⟨v138, hv138, hf⟩ := x_bind hf
        refine x_getR C dX12_isNamed_138 141 rfl hv138 cl11 rfl w1479 ?_
        refine x_iload C dX12_isNamed_141 143 rfl 6 rfl ?_
        refine x_iload C dX12_isNamed_143 145 rfl 7 rfl ?_
        obtain ⟨σ145, hσ145, hf⟩ := x_bind hf
        refine x_iastore C dX12_isNamed_145 146 rfl hσ145 ?_
        obtain ⟨v146, ev146, hf⟩ := xlet_some hf
        refine x_iinc C dX12_isNamed_146 149 rfl 5 rfl v146 ev146 rfl [(7, .int (v146)), (0, .ref (x0)), (1, .long (x1)), (3, .long (x3)), (5, .int (x5)), (6, .int (x6)), (8, .int (x8)), (9, .int (w53)), (10, .int (b64))] rfl ?_
        refine x_goto C dX12_isNamed_149 20 (by decide) ?_
        refine x_lv [1, 2, 3, 4, 5, 0] (lv' := [(0, .ref (x0)), (1, .long (x1)), (3, .long (x3)), (5, .int (x5)), (6, .int (x6)), (7, .int (v146))]) rfl ?_
        exact hK _ (Option.some.inj hf).symm
      · have hf := (if_neg hc).symm.trans hf
        refine x_lv [] (lv' := []) rfl ?_
        exact hx0 _ (Option.some.inj hf).symm
noncomputable def fLX12_isNamed_20 (x0 : Nat) (x1 : Int64) (x3 : Int64) (x5 : Int32) (x6 : Int32) (a : Int32 × St) : Option ((Int32 × St) ⊕ ((St) ⊕ (St))) :=
if x6 ≤ a.1 then
(some (Sum.inr (Sum.inr a.2)))
else
((fX12_letterAt x1 a.1).bind fun w30 =>
if x5 = 0 then
(fJX12_isNamed_20_53 a.2 x0 x1 x3 x5 x6 a.1 w30 a.1 x3)
else
(fJX12_isNamed_20_53 a.2 x0 x1 x3 x5 x6 a.1 w30 ((x6 - 1) - a.1) x3))
set_option maxHeartbeats 4000000 in
set_option maxRecDepth 100000 in
theorem lpX12_isNamed_20 {X : xX} {x0 : Nat} {x1 : Int64} {x3 : Int64} {x5 : Int32} {x6 : Int32}  {a0 : Int32 × St} {b : (St) ⊕ (St)} (C : Ok X cX12_isNamed 12 RX12 rmX12_isNamed (some .boolean)) (hb : iterP (fLX12_isNamed_20 x0 x1 x3 x5 x6) a0 = some b) (hy0 : ∀ s, b = (Sum.inl s) → V X (0, 0) s 135 [] []) (hy1 : ∀ s, b = (Sum.inr s) → V X (0, 0) s 152 [] []) : V X (0, 0) a0.2 20 [(0, .ref (x0)), (1, .long (x1)), (3, .long (x3)), (5, .int (x5)), (6, .int (x6)), (7, .int (a0.1))] [] := by
  obtain ⟨n, hn⟩ := iterP_some hb
  refine x_loop (P := fun a => V X (0, 0) a.2 20 [(0, .ref (x0)), (1, .long (x1)), (3, .long (x3)), (5, .int (x5)), (6, .int (x6)), (7, .int (a.1))] []) ?_ n a0 hn
  intro a c hf hK hxx
  have hx0 : ∀ s, c = Sum.inr (Sum.inl s) → V X (0, 0) s 135 [] [] := fun s e => hy0 s (hxx _ e).symm
  have hx1 : ∀ s, c = Sum.inr (Sum.inr s) → V X (0, 0) s 152 [] [] := fun s e => hy1 s (hxx _ e).symm
  unfold fLX12_isNamed_20 at hf
  refine x_iload C dX12_isNamed_20 22 rfl 5 rfl ?_
  refine x_iload C dX12_isNamed_22 24 rfl 4 rfl ?_
  refine x_icmp_ge C dX12_isNamed_24 152 (by decide) 27 rfl (fun hc => ?_) (fun hc => ?_)
  · have hf := (if_pos hc).symm.trans hf
    refine x_lv [] (lv' := []) rfl ?_
    exact hx1 _ (Option.some.inj hf).symm
  · have hf := (if_neg hc).symm.trans hf
    refine x_lload_n C dX12_isNamed_27 28 rfl 1 rfl rfl ?_
    refine x_iload C dX12_isNamed_28 30 rfl 5 rfl ?_
    obtain ⟨w30, hw30, hf⟩ := x_bind hf
    refine x_callSi C dX12_isNamed_30 33 rfl (cX12_letterAtc hw30) kX12_letterAt ksX12_letterAt w1722 ⟨rfl, rfl⟩ ⟨Nat.le_of_ble_eq_true rfl, Nat.le_of_ble_eq_true rfl⟩ ⟨Nat.zero_le _, Nat.zero_le _⟩ rfl rfl (Nat.le_of_ble_eq_true rfl) ?_
    refine x_istore C dX12_isNamed_33 35 rfl rfl [(8, .int (w30)), (0, .ref (x0)), (1, .long (x1)), (3, .long (x3)), (5, .int (x5)), (6, .int (x6)), (7, .int (a.1))] rfl ?_
    refine x_lload_n C dX12_isNamed_35 36 rfl 3 rfl rfl ?_
    refine x_iload C dX12_isNamed_36 38 rfl 4 rfl ?_
    refine x_if_eq C dX12_isNamed_38 51 (by decide) 41 rfl (fun hc => ?_) (fun hc => ?_)
    · have hf := (if_pos hc).symm.trans hf
      refine x_iload C dX12_isNamed_51 53 rfl 6 rfl ?_
      refine x_lv [1, 2, 3, 4, 5, 6, 0] (lv' := [(0, .ref (x0)), (1, .long (x1)), (3, .long (x3)), (5, .int (x5)), (6, .int (x6)), (7, .int (a.1)), (8, .int (w30))]) rfl ?_
      exact jnX12_isNamed_20_53 C hf hK hx0 hx1
    · have hf := (if_neg hc).symm.trans hf
      refine x_iload C dX12_isNamed_41 43 rfl 5 rfl ?_
      refine x_iconst C dX12_isNamed_43 44 rfl 1 (by decide) ?_
      refine x_isub C dX12_isNamed_44 45 rfl ?_
      refine x_iload C dX12_isNamed_45 47 rfl 6 rfl ?_
      refine x_isub C dX12_isNamed_47 48 rfl ?_
      refine x_goto C dX12_isNamed_48 53 (by decide) ?_
      refine x_lv [1, 2, 3, 4, 5, 6, 0] (lv' := [(0, .ref (x0)), (1, .long (x1)), (3, .long (x3)), (5, .int (x5)), (6, .int (x6)), (7, .int (a.1)), (8, .int (w30))]) rfl ?_
      exact jnX12_isNamed_20_53 C hf hK hx0 hx1
noncomputable def fX12_isNamed (σ : St) (x0 : Nat) (x1 : Int64) (x3 : Int64) (x5 : Int32) : Option ((Int32 × St)) :=
(fX12_length x1).bind fun w1 =>
(fX12_length x3).bind fun w9 =>
if w1 = w9 then
((iterP (fLX12_isNamed_20 x0 x1 x3 x5 w1) (0, σ)).bind fun b20 =>
(match b20 with
| .inl s20 =>
some (0, s20)
| .inr s20 =>
some (1, s20)))
else
(some (0, σ))
set_option maxHeartbeats 4000000 in
set_option maxRecDepth 100000 in
theorem cX12_isNamedc {l : Launch} {G : xG} {A : Nat → Prop} {σ : St} {x0 : Nat} {x1 : Int64} {x3 : Int64} {x5 : Int32} {c : (Int32 × St)} (hf : fX12_isNamed σ x0 x1 x3 x5 = some c) : Con l yX12_isNamed (xws yX12_isNamed cX12_isNamed 12 (some .boolean)) rmX12_isNamed [.ref (x0), .long (x1), .long (x3), .int (x5)] G A σ (some (.int c.1)) c.2 := by
  refine x_start rfl (Nat.le_of_ble_eq_true rfl) (fun X _ _ _ C hE0 => ?_)
  have hE : ∀ r, c = r → xE1 X (some (.int r.1)) r.2 := fun r e => e ▸ hE0
  show V X (0, 0) σ 0 [(0, .ref (x0)), (1, .long (x1)), (3, .long (x3)), (5, .int (x5))] []
  unfold fX12_isNamed at hf
  refine x_lload_n C dX12_isNamed_0 1 rfl 1 rfl rfl ?_
  obtain ⟨w1, hw1, hf⟩ := x_bind hf
  refine x_callSi C dX12_isNamed_1 4 rfl (cX12_lengthc hw1) kX12_length ksX12_length w1728 ⟨rfl, rfl⟩ ⟨Nat.le_of_ble_eq_true rfl, Nat.le_of_ble_eq_true rfl⟩ ⟨Nat.zero_le _, Nat.zero_le _⟩ rfl rfl (Nat.le_of_ble_eq_true rfl) ?_
  refine x_istore C dX12_isNamed_4 6 rfl rfl [(6, .int (w1)), (0, .ref (x0)), (1, .long (x1)), (3, .long (x3)), (5, .int (x5))] rfl ?_
  refine x_iload C dX12_isNamed_6 8 rfl 0 rfl ?_
  refine x_lload_n C dX12_isNamed_8 9 rfl 3 rfl rfl ?_
  obtain ⟨w9, hw9, hf⟩ := x_bind hf
  refine x_callSi C dX12_isNamed_9 12 rfl (cX12_lengthc hw9) kX12_length ksX12_length w1728 ⟨rfl, rfl⟩ ⟨Nat.le_of_ble_eq_true rfl, Nat.le_of_ble_eq_true rfl⟩ ⟨Nat.zero_le _, Nat.zero_le _⟩ rfl rfl (Nat.le_of_ble_eq_true rfl) ?_
  refine x_icmp_eq C dX12_isNamed_12 17 (by decide) 15 rfl (fun hc => ?_) (fun hc => ?_)
  · have hf := (if_pos hc).symm.trans hf
    refine x_iconst C dX12_isNamed_17 18 rfl 0 (by decide) ?_
    refine x_istore C dX12_isNamed_18 20 rfl rfl [(7, .int (0)), (6, .int (w1)), (0, .ref (x0)), (1, .long (x1)), (3, .long (x3)), (5, .int (x5))] rfl ?_
    obtain ⟨b20, hb20, hf⟩ := x_bind hf
    refine x_lv [2, 3, 4, 5, 1, 0] (lv' := [(0, .ref (x0)), (1, .long (x1)), (3, .long (x3)), (5, .int (x5)), (6, .int (w1)), (7, .int (0))]) rfl ?_
    refine lpX12_isNamed_20 C hb20 (fun s20 e20 => ?_) (fun s20 e20 => ?_)
    · subst e20
      try dsimp only at hf
      refine x_iconst C dX12_isNamed_135 136 rfl 0 (by decide) ?_
      exact x_zret C rfl (hE _ (Option.some.inj hf).symm) dX12_isNamed_136
    · subst e20
      try dsimp only at hf
      refine x_iconst C dX12_isNamed_152 153 rfl 1 (by decide) ?_
      exact x_zret C rfl (hE _ (Option.some.inj hf).symm) dX12_isNamed_153
  · have hf := (if_neg hc).symm.trans hf
    refine x_iconst C dX12_isNamed_15 16 rfl 0 (by decide) ?_
    exact x_zret C rfl (hE _ (Option.some.inj hf).symm) dX12_isNamed_16
