/-! methods: X12_make X12_meet X12_must X12_normals X12_number X12_overlap X12_puts X12_spelled X12_side -/
theorem dX12_make_0 : decode cX12_make 0 = .ok (.aload_n 0, 1) := by decide +kernel
theorem dX12_make_1 : decode cX12_make 1 = .ok (.iconst 0, 1) := by decide +kernel
theorem dX12_make_2 : decode cX12_make 2 = .ok (.putfield 1, 3) := by decide +kernel
theorem dX12_make_5 : decode cX12_make 5 = .ok (.aload_n 0, 1) := by decide +kernel
theorem dX12_make_6 : decode cX12_make 6 = .ok (.iload_n 1, 1) := by decide +kernel
theorem dX12_make_7 : decode cX12_make 7 = .ok (.invokestatic 452, 3) := by decide +kernel
theorem dX12_make_10 : decode cX12_make 10 = .ok (.iconst 1, 1) := by decide +kernel
theorem dX12_make_11 : decode cX12_make 11 = .ok (.invokevirtual 265, 3) := by decide +kernel
theorem dX12_make_14 : decode cX12_make 14 = .ok (.ifCond .ne 5, 3) := by decide +kernel
theorem dX12_make_17 : decode cX12_make 17 = .ok (.iconst 0, 1) := by decide +kernel
theorem dX12_make_18 : decode cX12_make 18 = .ok (.ireturn, 1) := by decide +kernel
theorem dX12_make_19 : decode cX12_make 19 = .ok (.iload_n 2, 1) := by decide +kernel
theorem dX12_make_20 : decode cX12_make 20 = .ok (.ifCond .lt 26, 3) := by decide +kernel
theorem dX12_make_23 : decode cX12_make 23 = .ok (.aload_n 0, 1) := by decide +kernel
theorem dX12_make_24 : decode cX12_make 24 = .ok (.iload_n 1, 1) := by decide +kernel
theorem dX12_make_25 : decode cX12_make 25 = .ok (.invokevirtual 471, 3) := by decide +kernel
theorem dX12_make_28 : decode cX12_make 28 = .ok (.bipush 40, 2) := by decide +kernel
theorem dX12_make_30 : decode cX12_make 30 = .ok (.if_icmp .eq 16, 3) := by decide +kernel
theorem dX12_make_33 : decode cX12_make 33 = .ok (.aload_n 0, 1) := by decide +kernel
theorem dX12_make_34 : decode cX12_make 34 = .ok (.aload_n 0, 1) := by decide +kernel
theorem dX12_make_35 : decode cX12_make 35 = .ok (.iload_n 1, 1) := by decide +kernel
theorem dX12_make_36 : decode cX12_make 36 = .ok (.invokevirtual 402, 3) := by decide +kernel
theorem dX12_make_39 : decode cX12_make 39 = .ok (.iload_n 2, 1) := by decide +kernel
theorem dX12_make_40 : decode cX12_make 40 = .ok (.invokevirtual 305, 3) := by decide +kernel
theorem dX12_make_43 : decode cX12_make 43 = .ok (.ifCond .ne 5, 3) := by decide +kernel
theorem dX12_make_46 : decode cX12_make 46 = .ok (.iconst (-1), 1) := by decide +kernel
theorem dX12_make_47 : decode cX12_make 47 = .ok (.ireturn, 1) := by decide +kernel
theorem dX12_make_48 : decode cX12_make 48 = .ok (.aload_n 0, 1) := by decide +kernel
theorem dX12_make_49 : decode cX12_make 49 = .ok (.invokevirtual 384, 3) := by decide +kernel
theorem dX12_make_52 : decode cX12_make 52 = .ok (.aload_n 0, 1) := by decide +kernel
theorem dX12_make_53 : decode cX12_make 53 = .ok (.iload_n 1, 1) := by decide +kernel
theorem dX12_make_54 : decode cX12_make 54 = .ok (.aload_n 0, 1) := by decide +kernel
theorem dX12_make_55 : decode cX12_make 55 = .ok (.getfield 295, 3) := by decide +kernel
theorem dX12_make_58 : decode cX12_make 58 = .ok (.aload_n 0, 1) := by decide +kernel
theorem dX12_make_59 : decode cX12_make 59 = .ok (.getfield 298, 3) := by decide +kernel
theorem dX12_make_62 : decode cX12_make 62 = .ok (.aload_n 0, 1) := by decide +kernel
theorem dX12_make_63 : decode cX12_make 63 = .ok (.getfield 301, 3) := by decide +kernel
theorem dX12_make_66 : decode cX12_make 66 = .ok (.invokevirtual 482, 3) := by decide +kernel
theorem dX12_make_69 : decode cX12_make 69 = .ok (.aload_n 0, 1) := by decide +kernel
theorem dX12_make_70 : decode cX12_make 70 = .ok (.iload_n 1, 1) := by decide +kernel
theorem dX12_make_71 : decode cX12_make 71 = .ok (.invokevirtual 402, 3) := by decide +kernel
theorem dX12_make_74 : decode cX12_make 74 = .ok (.invokestatic 136, 3) := by decide +kernel
theorem dX12_make_77 : decode cX12_make 77 = .ok (.ireturn, 1) := by decide +kernel
abbrev rmX12_make : Room := { frames := 5, cells := 0, slots := 0, locals := 129 }
noncomputable def fX12_make (σ : St) (x0 : Nat) (x1 : Int32) (x2 : Int32) : Option ((Int32 × St)) :=
(wrF σ x0 11 0 (.int (0))).bind fun σ2 =>
(fX12_isPlace x1).bind fun w7 =>
(isO σ2 x0 11).bind fun _ =>
(fX12_right σ2 x0 w7 1).bind fun w11 =>
if w11.1 = 0 then
(some (0, w11.2))
else
(if x2 < 0 then
(some ((-1), w11.2))
else
((isO w11.2 x0 11).bind fun _ =>
(fX12_stepsOf w11.2 x0 x1).bind fun w25 =>
if w25 = ((40 : Int32)) then
(some ((-1), w11.2))
else
((isO w11.2 x0 11).bind fun _ =>
(fX12_wordAt w11.2 x0 x1).bind fun w36 =>
(isO w11.2 x0 11).bind fun _ =>
(fX12_finds w11.2 x0 w36 x2).bind fun w40 =>
if w40.1 = 0 then
(some ((-1), w40.2))
else
((isO w40.2 x0 11).bind fun _ =>
(fX12_keeps w40.2 x0).bind fun w49 =>
(gI w49 x0 11 16).bind fun v55 =>
(gI w49 x0 11 17).bind fun v59 =>
(gL w49 x0 11 18).bind fun v63 =>
(isO w49 x0 11).bind fun _ =>
(fX12_makes w49 x0 x1 v55 v59 v63).bind fun w66 =>
(isO w66 x0 11).bind fun _ =>
(fX12_wordAt w66 x0 x1).bind fun w71 =>
(fX12_length w71).bind fun w74 =>
some (w74, w66)))))
set_option maxHeartbeats 4000000 in
set_option maxRecDepth 100000 in
theorem cX12_makec {l : Launch} {G : xG} {A : Nat → Prop} {σ : St} {x0 : Nat} {x1 : Int32} {x2 : Int32} {c : (Int32 × St)} (hf : fX12_make σ x0 x1 x2 = some c) : Con l yX12_make (xws yX12_make cX12_make 3 (some .int)) rmX12_make [.ref (x0), .int (x1), .int (x2)] G A σ (some (.int c.1)) c.2 := by
  refine x_start rfl (Nat.le_of_ble_eq_true rfl) (fun X _ _ _ C hE0 => ?_)
  have hE : ∀ r, c = r → xE1 X (some (.int r.1)) r.2 := fun r e => e ▸ hE0
  show V X (0, 0) σ 0 [(0, .ref (x0)), (1, .int (x1)), (2, .int (x2))] []
  unfold fX12_make at hf
  refine x_aload_n C dX12_make_0 1 rfl 0 rfl rfl ?_
  refine x_iconst C dX12_make_1 2 rfl 0 (by decide) ?_
  obtain ⟨σ2, hσ2, hf⟩ := x_bind hf
  refine x_putX C dX12_make_2 5 rfl hσ2 cl11 rfl w1443 rfl rfl rfl ?_
  refine x_aload_n C dX12_make_5 6 rfl 0 rfl rfl ?_
  refine x_iload_n C dX12_make_6 7 rfl 1 rfl rfl ?_
  obtain ⟨w7, hw7, hf⟩ := x_bind hf
  refine x_callSi C dX12_make_7 10 rfl (cX12_isPlacec hw7) kX12_isPlace ksX12_isPlace w1942 ⟨rfl, rfl⟩ ⟨Nat.le_of_ble_eq_true rfl, Nat.le_of_ble_eq_true rfl⟩ ⟨Nat.zero_le _, Nat.zero_le _⟩ rfl rfl (Nat.le_of_ble_eq_true rfl) ?_
  refine x_iconst C dX12_make_10 11 rfl 1 (by decide) ?_
  obtain ⟨o11, ho11, hf⟩ := x_bind hf
  obtain ⟨w11, hw11, hf⟩ := x_bind hf
  refine x_callVi C dX12_make_11 14 rfl ho11 cl11.1 rfl (cX12_rightc hw11) kX12_right kvX12_right w1648 ⟨rfl, rfl⟩ ⟨Nat.le_of_ble_eq_true rfl, Nat.le_of_ble_eq_true rfl⟩ ⟨Nat.zero_le _, Nat.zero_le _⟩ rfl rfl (Nat.le_of_ble_eq_true rfl) ?_
  refine x_if_ne C dX12_make_14 19 (by decide) 17 rfl (fun hc => ?_) (fun hc => ?_)
  · have hf := (if_neg hc).symm.trans hf
    refine x_iload_n C dX12_make_19 20 rfl 2 rfl rfl ?_
    refine x_if_lt C dX12_make_20 46 (by decide) 23 rfl (fun hc => ?_) (fun hc => ?_)
    · have hf := (if_pos hc).symm.trans hf
      refine x_iconst C dX12_make_46 47 rfl (-1) (by decide) ?_
      exact x_iret C (hE _ (Option.some.inj hf).symm) dX12_make_47
    · have hf := (if_neg hc).symm.trans hf
      refine x_aload_n C dX12_make_23 24 rfl 0 rfl rfl ?_
      refine x_iload_n C dX12_make_24 25 rfl 1 rfl rfl ?_
      obtain ⟨o25, ho25, hf⟩ := x_bind hf
      obtain ⟨w25, hw25, hf⟩ := x_bind hf
      refine x_callVi C dX12_make_25 28 rfl ho25 cl11.1 rfl (cX12_stepsOfc hw25) kX12_stepsOf kvX12_stepsOf w1980 ⟨rfl, rfl⟩ ⟨Nat.le_of_ble_eq_true rfl, Nat.le_of_ble_eq_true rfl⟩ ⟨Nat.zero_le _, Nat.zero_le _⟩ rfl rfl (Nat.le_of_ble_eq_true rfl) ?_
      refine x_bipush C dX12_make_28 30 rfl 40 (by decide) ?_
      refine x_icmp_eq C dX12_make_30 46 (by decide) 33 rfl (fun hc => ?_) (fun hc => ?_)
      · have hf := (if_pos hc).symm.trans hf
        refine x_iconst C dX12_make_46 47 rfl (-1) (by decide) ?_
        exact x_iret C (hE _ (Option.some.inj hf).symm) dX12_make_47
      · have hf := (if_neg hc).symm.trans hf
        refine x_aload_n C dX12_make_33 34 rfl 0 rfl rfl ?_
        refine x_aload_n C dX12_make_34 35 rfl 0 rfl rfl ?_
        refine x_iload_n C dX12_make_35 36 rfl 1 rfl rfl ?_
        obtain ⟨o36, ho36, hf⟩ := x_bind hf
        obtain ⟨w36, hw36, hf⟩ := x_bind hf
        refine x_callVl C dX12_make_36 39 rfl ho36 cl11.1 rfl (cX12_wordAtc hw36) kX12_wordAt kvX12_wordAt w1845 ⟨rfl, rfl⟩ ⟨Nat.le_of_ble_eq_true rfl, Nat.le_of_ble_eq_true rfl⟩ ⟨Nat.zero_le _, Nat.zero_le _⟩ rfl rfl (Nat.le_of_ble_eq_true rfl) ?_
        refine x_iload_n C dX12_make_39 40 rfl 2 rfl rfl ?_
        obtain ⟨o40, ho40, hf⟩ := x_bind hf
        obtain ⟨w40, hw40, hf⟩ := x_bind hf
        refine x_callVi C dX12_make_40 43 rfl ho40 cl11.1 rfl (cX12_findsc hw40) kX12_finds kvX12_finds w1810 ⟨rfl, rfl⟩ ⟨Nat.le_of_ble_eq_true rfl, Nat.le_of_ble_eq_true rfl⟩ ⟨Nat.zero_le _, Nat.zero_le _⟩ rfl rfl (Nat.le_of_ble_eq_true rfl) ?_
        refine x_if_ne C dX12_make_43 48 (by decide) 46 rfl (fun hc => ?_) (fun hc => ?_)
        · have hf := (if_neg hc).symm.trans hf
          refine x_aload_n C dX12_make_48 49 rfl 0 rfl rfl ?_
          obtain ⟨o49, ho49, hf⟩ := x_bind hf
          obtain ⟨w49, hw49, hf⟩ := x_bind hf
          refine x_callVv C dX12_make_49 52 rfl ho49 cl11.1 rfl (cX12_keepsc hw49) kX12_keeps kvX12_keeps w1772 ⟨rfl, rfl⟩ ⟨Nat.le_of_ble_eq_true rfl, Nat.le_of_ble_eq_true rfl⟩ ⟨Nat.zero_le _, Nat.zero_le _⟩ rfl rfl (Nat.le_of_ble_eq_true rfl) ?_
          refine x_aload_n C dX12_make_52 53 rfl 0 rfl rfl ?_
          refine x_iload_n C dX12_make_53 54 rfl 1 rfl rfl ?_
          refine x_aload_n C dX12_make_54 55 rfl 0 rfl rfl ?_
          obtain ⟨v55, hv55, hf⟩ := x_bind hf
          refine x_getI C dX12_make_55 58 rfl hv55 cl11 rfl w1459 ?_
          refine x_aload_n C dX12_make_58 59 rfl 0 rfl rfl ?_
          obtain ⟨v59, hv59, hf⟩ := x_bind hf
          refine x_getI C dX12_make_59 62 rfl hv59 cl11 rfl w1460 ?_
          refine x_aload_n C dX12_make_62 63 rfl 0 rfl rfl ?_
          obtain ⟨v63, hv63, hf⟩ := x_bind hf
          refine x_getL C dX12_make_63 66 rfl hv63 cl11 rfl w1461 ?_
          obtain ⟨o66, ho66, hf⟩ := x_bind hf
          obtain ⟨w66, hw66, hf⟩ := x_bind hf
          refine x_callVv C dX12_make_66 69 rfl ho66 cl11.1 rfl (cX12_makesc hw66) kX12_makes kvX12_makes w2038 ⟨rfl, rfl⟩ ⟨Nat.le_of_ble_eq_true rfl, Nat.le_of_ble_eq_true rfl⟩ ⟨Nat.zero_le _, Nat.zero_le _⟩ rfl rfl (Nat.le_of_ble_eq_true rfl) ?_
          refine x_aload_n C dX12_make_69 70 rfl 0 rfl rfl ?_
          refine x_iload_n C dX12_make_70 71 rfl 1 rfl rfl ?_
          obtain ⟨o71, ho71, hf⟩ := x_bind hf
          obtain ⟨w71, hw71, hf⟩ := x_bind hf
          refine x_callVl C dX12_make_71 74 rfl ho71 cl11.1 rfl (cX12_wordAtc hw71) kX12_wordAt kvX12_wordAt w1845 ⟨rfl, rfl⟩ ⟨Nat.le_of_ble_eq_true rfl, Nat.le_of_ble_eq_true rfl⟩ ⟨Nat.zero_le _, Nat.zero_le _⟩ rfl rfl (Nat.le_of_ble_eq_true rfl) ?_
          obtain ⟨w74, hw74, hf⟩ := x_bind hf
          refine x_callSi C dX12_make_74 77 rfl (cX12_lengthc hw74) kX12_length ksX12_length w1728 ⟨rfl, rfl⟩ ⟨Nat.le_of_ble_eq_true rfl, Nat.le_of_ble_eq_true rfl⟩ ⟨Nat.zero_le _, Nat.zero_le _⟩ rfl rfl (Nat.le_of_ble_eq_true rfl) ?_
          exact x_iret C (hE _ (Option.some.inj hf).symm) dX12_make_77
        · have hf := (if_pos hc).symm.trans hf
          refine x_iconst C dX12_make_46 47 rfl (-1) (by decide) ?_
          exact x_iret C (hE _ (Option.some.inj hf).symm) dX12_make_47
  · have hf := (if_pos hc).symm.trans hf
    refine x_iconst C dX12_make_17 18 rfl 0 (by decide) ?_
    exact x_iret C (hE _ (Option.some.inj hf).symm) dX12_make_18
theorem dX12_meet_0 : decode cX12_meet 0 = .ok (.aload_n 0, 1) := by decide +kernel
theorem dX12_meet_1 : decode cX12_meet 1 = .ok (.iconst 0, 1) := by decide +kernel
theorem dX12_meet_2 : decode cX12_meet 2 = .ok (.putfield 1, 3) := by decide +kernel
theorem dX12_meet_5 : decode cX12_meet 5 = .ok (.aload_n 0, 1) := by decide +kernel
theorem dX12_meet_6 : decode cX12_meet 6 = .ok (.iload_n 1, 1) := by decide +kernel
theorem dX12_meet_7 : decode cX12_meet 7 = .ok (.invokestatic 452, 3) := by decide +kernel
theorem dX12_meet_10 : decode cX12_meet 10 = .ok (.ifCond .eq 24, 3) := by decide +kernel
theorem dX12_meet_13 : decode cX12_meet 13 = .ok (.iload_n 2, 1) := by decide +kernel
theorem dX12_meet_14 : decode cX12_meet 14 = .ok (.invokestatic 452, 3) := by decide +kernel
theorem dX12_meet_17 : decode cX12_meet 17 = .ok (.ifCond .eq 17, 3) := by decide +kernel
theorem dX12_meet_20 : decode cX12_meet 20 = .ok (.iload_n 3, 1) := by decide +kernel
theorem dX12_meet_21 : decode cX12_meet 21 = .ok (.i2l, 1) := by decide +kernel
theorem dX12_meet_22 : decode cX12_meet 22 = .ok (.lconst 0, 1) := by decide +kernel
theorem dX12_meet_23 : decode cX12_meet 23 = .ok (.lconst 1, 1) := by decide +kernel
theorem dX12_meet_24 : decode cX12_meet 24 = .ok (.invokestatic 130, 3) := by decide +kernel
theorem dX12_meet_27 : decode cX12_meet 27 = .ok (.ifCond .eq 7, 3) := by decide +kernel
theorem dX12_meet_30 : decode cX12_meet 30 = .ok (.iconst 1, 1) := by decide +kernel
theorem dX12_meet_31 : decode cX12_meet 31 = .ok (.goto 4, 3) := by decide +kernel
theorem dX12_meet_34 : decode cX12_meet 34 = .ok (.iconst 0, 1) := by decide +kernel
theorem dX12_meet_35 : decode cX12_meet 35 = .ok (.iconst 1, 1) := by decide +kernel
theorem dX12_meet_36 : decode cX12_meet 36 = .ok (.invokevirtual 265, 3) := by decide +kernel
theorem dX12_meet_39 : decode cX12_meet 39 = .ok (.ifCond .ne 5, 3) := by decide +kernel
theorem dX12_meet_42 : decode cX12_meet 42 = .ok (.iconst 0, 1) := by decide +kernel
theorem dX12_meet_43 : decode cX12_meet 43 = .ok (.ireturn, 1) := by decide +kernel
theorem dX12_meet_44 : decode cX12_meet 44 = .ok (.aload_n 0, 1) := by decide +kernel
theorem dX12_meet_45 : decode cX12_meet 45 = .ok (.iconst 0, 1) := by decide +kernel
theorem dX12_meet_46 : decode cX12_meet 46 = .ok (.aload_n 0, 1) := by decide +kernel
theorem dX12_meet_47 : decode cX12_meet 47 = .ok (.iload_n 1, 1) := by decide +kernel
theorem dX12_meet_48 : decode cX12_meet 48 = .ok (.invokevirtual 402, 3) := by decide +kernel
theorem dX12_meet_51 : decode cX12_meet 51 = .ok (.invokevirtual 459, 3) := by decide +kernel
theorem dX12_meet_54 : decode cX12_meet 54 = .ok (.aload_n 0, 1) := by decide +kernel
theorem dX12_meet_55 : decode cX12_meet 55 = .ok (.iconst 1, 1) := by decide +kernel
theorem dX12_meet_56 : decode cX12_meet 56 = .ok (.aload_n 0, 1) := by decide +kernel
theorem dX12_meet_57 : decode cX12_meet 57 = .ok (.iload_n 2, 1) := by decide +kernel
theorem dX12_meet_58 : decode cX12_meet 58 = .ok (.invokevirtual 402, 3) := by decide +kernel
theorem dX12_meet_61 : decode cX12_meet 61 = .ok (.invokevirtual 459, 3) := by decide +kernel
theorem dX12_meet_64 : decode cX12_meet 64 = .ok (.iconst 0, 1) := by decide +kernel
theorem dX12_meet_65 : decode cX12_meet 65 = .ok (.istore 4, 2) := by decide +kernel
theorem dX12_meet_67 : decode cX12_meet 67 = .ok (.iload 4, 2) := by decide +kernel
theorem dX12_meet_69 : decode cX12_meet 69 = .ok (.aload_n 0, 1) := by decide +kernel
theorem dX12_meet_70 : decode cX12_meet 70 = .ok (.getfield 49, 3) := by decide +kernel
theorem dX12_meet_73 : decode cX12_meet 73 = .ok (.iconst 0, 1) := by decide +kernel
theorem dX12_meet_74 : decode cX12_meet 74 = .ok (.iaload, 1) := by decide +kernel
theorem dX12_meet_75 : decode cX12_meet 75 = .ok (.if_icmp .ge 41, 3) := by decide +kernel
theorem dX12_meet_78 : decode cX12_meet 78 = .ok (.aload_n 0, 1) := by decide +kernel
theorem dX12_meet_79 : decode cX12_meet 79 = .ok (.iconst 1, 1) := by decide +kernel
theorem dX12_meet_80 : decode cX12_meet 80 = .ok (.aload_n 0, 1) := by decide +kernel
theorem dX12_meet_81 : decode cX12_meet 81 = .ok (.getfield 43, 3) := by decide +kernel
theorem dX12_meet_84 : decode cX12_meet 84 = .ok (.iload 4, 2) := by decide +kernel
theorem dX12_meet_86 : decode cX12_meet 86 = .ok (.laload, 1) := by decide +kernel
theorem dX12_meet_87 : decode cX12_meet 87 = .ok (.invokevirtual 332, 3) := by decide +kernel
theorem dX12_meet_90 : decode cX12_meet 90 = .ok (.istore 5, 2) := by decide +kernel
theorem dX12_meet_92 : decode cX12_meet 92 = .ok (.iload 5, 2) := by decide +kernel
theorem dX12_meet_94 : decode cX12_meet 94 = .ok (.iconst (-1), 1) := by decide +kernel
theorem dX12_meet_95 : decode cX12_meet 95 = .ok (.if_icmp .eq 15, 3) := by decide +kernel
theorem dX12_meet_98 : decode cX12_meet 98 = .ok (.iload_n 3, 1) := by decide +kernel
theorem dX12_meet_99 : decode cX12_meet 99 = .ok (.ifCond .ne 8, 3) := by decide +kernel
theorem dX12_meet_102 : decode cX12_meet 102 = .ok (.iload 4, 2) := by decide +kernel
theorem dX12_meet_104 : decode cX12_meet 104 = .ok (.goto 5, 3) := by decide +kernel
theorem dX12_meet_107 : decode cX12_meet 107 = .ok (.iload 5, 2) := by decide +kernel
theorem dX12_meet_109 : decode cX12_meet 109 = .ok (.ireturn, 1) := by decide +kernel
theorem dX12_meet_110 : decode cX12_meet 110 = .ok (.iinc 4 1, 3) := by decide +kernel
theorem dX12_meet_113 : decode cX12_meet 113 = .ok (.goto (-46), 3) := by decide +kernel
theorem dX12_meet_116 : decode cX12_meet 116 = .ok (.iconst (-1), 1) := by decide +kernel
theorem dX12_meet_117 : decode cX12_meet 117 = .ok (.ireturn, 1) := by decide +kernel
abbrev rmX12_meet : Room := { frames := 6, cells := 0, slots := 0, locals := 156 }
noncomputable def fLX12_meet_67 (σ : St) (x0 : Nat) (x3 : Int32) (a : Int32) : Option ((Int32) ⊕ ((Int32 × Int32) ⊕ (Unit))) :=
(gR σ x0 11 27).bind fun v70 =>
(aI σ v70 0 0).bind fun v74 =>
if v74 ≤ a then
(some (Sum.inr (Sum.inr ())))
else
((gR σ x0 11 25).bind fun v81 =>
(aL σ v81 a).bind fun v86 =>
(isO σ x0 11).bind fun _ =>
(fX12_placeIn σ x0 1 v86).bind fun w87 =>
if w87 = (((-1) : Int32)) then
(xlet (a + 1) fun v110 =>
some (Sum.inl v110))
else
(some (Sum.inr (Sum.inl (a, w87)))))
set_option maxHeartbeats 4000000 in
set_option maxRecDepth 100000 in
theorem lpX12_meet_67 {X : xX} {σ : St} {x0 : Nat} {x3 : Int32}  {a0 : Int32} {b : (Int32 × Int32) ⊕ (Unit)} (C : Ok X cX12_meet 6 RX12 rmX12_meet (some .int)) (hb : iterP (fLX12_meet_67 σ x0 x3) a0 = some b) (hy0 : ∀ s, b = (Sum.inl s) → V X (0, 0) σ 98 [(3, .int (x3)), (4, .int (s.1)), (5, .int (s.2))] []) (hy1 : ∀ s, b = (Sum.inr s) → V X (0, 0) σ 116 [] []) : V X (0, 0) σ 67 [(0, .ref (x0)), (3, .int (x3)), (4, .int (a0))] [] := by
  obtain ⟨n, hn⟩ := iterP_some hb
  refine x_loop (P := fun a => V X (0, 0) σ 67 [(0, .ref (x0)), (3, .int (x3)), (4, .int (a))] []) ?_ n a0 hn
  intro a c hf hK hxx
  have hx0 : ∀ s, c = Sum.inr (Sum.inl s) → V X (0, 0) σ 98 [(3, .int (x3)), (4, .int (s.1)), (5, .int (s.2))] [] := fun s e => hy0 s (hxx _ e).symm
  have hx1 : ∀ s, c = Sum.inr (Sum.inr s) → V X (0, 0) σ 116 [] [] := fun s e => hy1 s (hxx _ e).symm
  unfold fLX12_meet_67 at hf
  refine x_iload C dX12_meet_67 69 rfl 2 rfl ?_
  refine x_aload_n C dX12_meet_69 70 rfl 0 rfl rfl ?_
  obtain ⟨v70, hv70, hf⟩ := x_bind hf
  refine x_getR C dX12_meet_70 73 rfl hv70 cl11 rfl w1470 ?_
  refine x_iconst C dX12_meet_73 74 rfl 0 (by decide) ?_
  obtain ⟨v74, hv74, hf⟩ := x_bind hf
  refine x_iaload C dX12_meet_74 75 rfl hv74 ?_
  refine x_icmp_ge C dX12_meet_75 116 (by decide) 78 rfl (fun hc => ?_) (fun hc => ?_)
  · have hf := (if_pos hc).symm.trans hf
    refine x_lv [] (lv' := []) rfl ?_
    exact hx1 _ (Option.some.inj hf).symm
  · have hf := (if_neg hc).symm.trans hf
    refine x_aload_n C dX12_meet_78 79 rfl 0 rfl rfl ?_
    refine x_iconst C dX12_meet_79 80 rfl 1 (by decide) ?_
    refine x_aload_n C dX12_meet_80 81 rfl 0 rfl rfl ?_
    obtain ⟨v81, hv81, hf⟩ := x_bind hf
    refine x_getR C dX12_meet_81 84 rfl hv81 cl11 rfl w1468 ?_
    refine x_iload C dX12_meet_84 86 rfl 2 rfl ?_
    obtain ⟨v86, hv86, hf⟩ := x_bind hf
    refine x_laload C dX12_meet_86 87 rfl hv86 ?_
    obtain ⟨o87, ho87, hf⟩ := x_bind hf
    obtain ⟨w87, hw87, hf⟩ := x_bind hf
    refine x_callVi C dX12_meet_87 90 rfl ho87 cl11.1 rfl (cX12_placeInc hw87) kX12_placeIn kvX12_placeIn w1960 ⟨rfl, rfl⟩ ⟨Nat.le_of_ble_eq_true rfl, Nat.le_of_ble_eq_true rfl⟩ ⟨Nat.zero_le _, Nat.zero_le _⟩ rfl rfl (Nat.le_of_ble_eq_true rfl) ?_
    refine x_istore C dX12_meet_90 92 rfl rfl [(5, .int (w87)), (0, .ref (x0)), (3, .int (x3)), (4, .int (a))] rfl ?_
    refine x_iload C dX12_meet_92 94 rfl 0 rfl ?_
    refine x_iconst C dX12_meet_94 95 rfl (-1) (by decide) ?_
    refine x_icmp_eq C dX12_meet_95 110 (by decide) 98 rfl (fun hc => ?_) (fun hc => ?_)
    · have hf := (if_pos hc).symm.trans hf
      obtain ⟨v110, ev110, hf⟩ := xlet_some hf
      refine x_iinc C dX12_meet_110 113 rfl 3 rfl v110 ev110 rfl [(4, .int (v110)), (5, .int (w87)), (0, .ref (x0)), (3, .int (x3))] rfl ?_
      refine x_goto C dX12_meet_113 67 (by decide) ?_
      refine x_lv [2, 3, 0] (lv' := [(0, .ref (x0)), (3, .int (x3)), (4, .int (v110))]) rfl ?_
      exact hK _ (Option.some.inj hf).symm
    · have hf := (if_neg hc).symm.trans hf
      refine x_lv [2, 3, 0] (lv' := [(3, .int (x3)), (4, .int (a)), (5, .int (w87))]) rfl ?_
      exact hx0 _ (Option.some.inj hf).symm
noncomputable def fJX12_meet_m_35 (σ : St) (x0 : Nat) (x1 : Int32) (x2 : Int32) (x3 : Int32) (t0 : Int32) (t1 : Nat) : Option ((Int32 × St)) :=
(isO σ t1 11).bind fun _ =>
(fX12_right σ t1 t0 1).bind fun w36 =>
if w36.1 = 0 then
(some (0, w36.2))
else
((isO w36.2 x0 11).bind fun _ =>
(fX12_wordAt w36.2 x0 x1).bind fun w48 =>
(isO w36.2 x0 11).bind fun _ =>
(fX12_laysReach w36.2 x0 0 w48).bind fun w51 =>
(isO w51 x0 11).bind fun _ =>
(fX12_wordAt w51 x0 x2).bind fun w58 =>
(isO w51 x0 11).bind fun _ =>
(fX12_laysReach w51 x0 1 w58).bind fun w61 =>
(iterP (fLX12_meet_67 w61 x0 x3) 0).bind fun b67 =>
(match b67 with
| .inl s67 =>
if x3 = 0 then
(some (s67.1, w61))
else
(some (s67.2, w61))
| .inr s67 =>
some ((-1), w61)))
set_option maxHeartbeats 4000000 in
set_option maxRecDepth 100000 in
theorem jnX12_meet_m_35 {X : xX} {σ : St} {x0 : Nat} {x1 : Int32} {x2 : Int32} {x3 : Int32} {t0 : Int32} {t1 : Nat}  {c : (Int32 × St)} (C : Ok X cX12_meet 6 RX12 rmX12_meet (some .int)) (hf : fJX12_meet_m_35 σ x0 x1 x2 x3 t0 t1 = some c) (hE : ∀ r, c = r → xE1 X (some (.int r.1)) r.2) : V X (0, 0) σ 35 [(0, .ref (x0)), (1, .int (x1)), (2, .int (x2)), (3, .int (x3))] [.int (t0), .ref (t1)] := by
  unfold fJX12_meet_m_35 at hf
  refine x_iconst C dX12_meet_35 36 rfl 1 (by decide) ?_
  obtain ⟨o36, ho36, hf⟩ := x_bind hf
  obtain ⟨w36, hw36, hf⟩ := x_bind hf
  refine x_callVi C dX12_meet_36 39 rfl ho36 cl11.1 rfl (cX12_rightc hw36) kX12_right kvX12_right w1648 ⟨rfl, rfl⟩ ⟨Nat.le_of_ble_eq_true rfl, Nat.le_of_ble_eq_true rfl⟩ ⟨Nat.zero_le _, Nat.zero_le _⟩ rfl rfl (Nat.le_of_ble_eq_true rfl) ?_
  refine x_if_ne C dX12_meet_39 44 (by decide) 42 rfl (fun hc => ?_) (fun hc => ?_)
  · have hf := (if_neg hc).symm.trans hf
    refine x_aload_n C dX12_meet_44 45 rfl 0 rfl rfl ?_
    refine x_iconst C dX12_meet_45 46 rfl 0 (by decide) ?_
    refine x_aload_n C dX12_meet_46 47 rfl 0 rfl rfl ?_
    refine x_iload_n C dX12_meet_47 48 rfl 1 rfl rfl ?_
    obtain ⟨o48, ho48, hf⟩ := x_bind hf
    obtain ⟨w48, hw48, hf⟩ := x_bind hf
    refine x_callVl C dX12_meet_48 51 rfl ho48 cl11.1 rfl (cX12_wordAtc hw48) kX12_wordAt kvX12_wordAt w1845 ⟨rfl, rfl⟩ ⟨Nat.le_of_ble_eq_true rfl, Nat.le_of_ble_eq_true rfl⟩ ⟨Nat.zero_le _, Nat.zero_le _⟩ rfl rfl (Nat.le_of_ble_eq_true rfl) ?_
    obtain ⟨o51, ho51, hf⟩ := x_bind hf
    obtain ⟨w51, hw51, hf⟩ := x_bind hf
    refine x_callVv C dX12_meet_51 54 rfl ho51 cl11.1 rfl (cX12_laysReachc hw51) kX12_laysReach kvX12_laysReach w1952 ⟨rfl, rfl⟩ ⟨Nat.le_of_ble_eq_true rfl, Nat.le_of_ble_eq_true rfl⟩ ⟨Nat.zero_le _, Nat.zero_le _⟩ rfl rfl (Nat.le_of_ble_eq_true rfl) ?_
    refine x_aload_n C dX12_meet_54 55 rfl 0 rfl rfl ?_
    refine x_iconst C dX12_meet_55 56 rfl 1 (by decide) ?_
    refine x_aload_n C dX12_meet_56 57 rfl 0 rfl rfl ?_
    refine x_iload_n C dX12_meet_57 58 rfl 2 rfl rfl ?_
    obtain ⟨o58, ho58, hf⟩ := x_bind hf
    obtain ⟨w58, hw58, hf⟩ := x_bind hf
    refine x_callVl C dX12_meet_58 61 rfl ho58 cl11.1 rfl (cX12_wordAtc hw58) kX12_wordAt kvX12_wordAt w1845 ⟨rfl, rfl⟩ ⟨Nat.le_of_ble_eq_true rfl, Nat.le_of_ble_eq_true rfl⟩ ⟨Nat.zero_le _, Nat.zero_le _⟩ rfl rfl (Nat.le_of_ble_eq_true rfl) ?_
    obtain ⟨o61, ho61, hf⟩ := x_bind hf
    obtain ⟨w61, hw61, hf⟩ := x_bind hf
    refine x_callVv C dX12_meet_61 64 rfl ho61 cl11.1 rfl (cX12_laysReachc hw61) kX12_laysReach kvX12_laysReach w1952 ⟨rfl, rfl⟩ ⟨Nat.le_of_ble_eq_true rfl, Nat.le_of_ble_eq_true rfl⟩ ⟨Nat.zero_le _, Nat.zero_le _⟩ rfl rfl (Nat.le_of_ble_eq_true rfl) ?_
    refine x_iconst C dX12_meet_64 65 rfl 0 (by decide) ?_
    refine x_istore C dX12_meet_65 67 rfl rfl [(4, .int (0)), (0, .ref (x0)), (1, .int (x1)), (2, .int (x2)), (3, .int (x3))] rfl ?_
    obtain ⟨b67, hb67, hf⟩ := x_bind hf
    refine x_lv [1, 4, 0] (lv' := [(0, .ref (x0)), (3, .int (x3)), (4, .int (0))]) rfl ?_
    refine lpX12_meet_67 C hb67 (fun s67 e67 => ?_) (fun s67 e67 => ?_)
    · subst e67
      try dsimp only at hf
      refine x_iload_n C dX12_meet_98 99 rfl 0 rfl rfl ?_
      refine x_if_ne C dX12_meet_99 107 (by decide) 102 rfl (fun hc => ?_) (fun hc => ?_)
      · have hf := (if_neg hc).symm.trans hf
        refine x_iload C dX12_meet_107 109 rfl 2 rfl ?_
        exact x_iret C (hE _ (Option.some.inj hf).symm) dX12_meet_109
      · have hf := (if_pos hc).symm.trans hf
        refine x_iload C dX12_meet_102 104 rfl 1 rfl ?_
        refine x_goto C dX12_meet_104 109 (by decide) ?_
        exact x_iret C (hE _ (Option.some.inj hf).symm) dX12_meet_109
    · subst e67
      try dsimp only at hf
      refine x_iconst C dX12_meet_116 117 rfl (-1) (by decide) ?_
      exact x_iret C (hE _ (Option.some.inj hf).symm) dX12_meet_117
  · have hf := (if_pos hc).symm.trans hf
    refine x_iconst C dX12_meet_42 43 rfl 0 (by decide) ?_
    exact x_iret C (hE _ (Option.some.inj hf).symm) dX12_meet_43
noncomputable def fJX12_meet_m_34 (σ : St) (x0 : Nat) (x1 : Int32) (x2 : Int32) (x3 : Int32) (t0 : Nat) : Option ((Int32 × St)) :=
fJX12_meet_m_35 σ x0 x1 x2 x3 0 t0
set_option maxHeartbeats 4000000 in
set_option maxRecDepth 100000 in
theorem jnX12_meet_m_34 {X : xX} {σ : St} {x0 : Nat} {x1 : Int32} {x2 : Int32} {x3 : Int32} {t0 : Nat}  {c : (Int32 × St)} (C : Ok X cX12_meet 6 RX12 rmX12_meet (some .int)) (hf : fJX12_meet_m_34 σ x0 x1 x2 x3 t0 = some c) (hE : ∀ r, c = r → xE1 X (some (.int r.1)) r.2) : V X (0, 0) σ 34 [(0, .ref (x0)), (1, .int (x1)), (2, .int (x2)), (3, .int (x3))] [.ref (t0)] := by
  unfold fJX12_meet_m_34 at hf
  refine x_iconst C dX12_meet_34 35 rfl 0 (by decide) ?_
  exact jnX12_meet_m_35 C hf hE
noncomputable def fX12_meet (σ : St) (x0 : Nat) (x1 : Int32) (x2 : Int32) (x3 : Int32) : Option ((Int32 × St)) :=
(wrF σ x0 11 0 (.int (0))).bind fun σ2 =>
(fX12_isPlace x1).bind fun w7 =>
if w7 = 0 then
(fJX12_meet_m_34 σ2 x0 x1 x2 x3 x0)
else
((fX12_isPlace x2).bind fun w14 =>
if w14 = 0 then
(fJX12_meet_m_34 σ2 x0 x1 x2 x3 x0)
else
((fX12_isIn x3.toInt64 0 1).bind fun w24 =>
if w24 = 0 then
(fJX12_meet_m_34 σ2 x0 x1 x2 x3 x0)
else
(fJX12_meet_m_35 σ2 x0 x1 x2 x3 1 x0)))
set_option maxHeartbeats 4000000 in
set_option maxRecDepth 100000 in
theorem cX12_meetc {l : Launch} {G : xG} {A : Nat → Prop} {σ : St} {x0 : Nat} {x1 : Int32} {x2 : Int32} {x3 : Int32} {c : (Int32 × St)} (hf : fX12_meet σ x0 x1 x2 x3 = some c) : Con l yX12_meet (xws yX12_meet cX12_meet 6 (some .int)) rmX12_meet [.ref (x0), .int (x1), .int (x2), .int (x3)] G A σ (some (.int c.1)) c.2 := by
  refine x_start rfl (Nat.le_of_ble_eq_true rfl) (fun X _ _ _ C hE0 => ?_)
  have hE : ∀ r, c = r → xE1 X (some (.int r.1)) r.2 := fun r e => e ▸ hE0
  show V X (0, 0) σ 0 [(0, .ref (x0)), (1, .int (x1)), (2, .int (x2)), (3, .int (x3))] []
  unfold fX12_meet at hf
  refine x_aload_n C dX12_meet_0 1 rfl 0 rfl rfl ?_
  refine x_iconst C dX12_meet_1 2 rfl 0 (by decide) ?_
  obtain ⟨σ2, hσ2, hf⟩ := x_bind hf
  refine x_putX C dX12_meet_2 5 rfl hσ2 cl11 rfl w1443 rfl rfl rfl ?_
  refine x_aload_n C dX12_meet_5 6 rfl 0 rfl rfl ?_
  refine x_iload_n C dX12_meet_6 7 rfl 1 rfl rfl ?_
  obtain ⟨w7, hw7, hf⟩ := x_bind hf
  refine x_callSi C dX12_meet_7 10 rfl (cX12_isPlacec hw7) kX12_isPlace ksX12_isPlace w1942 ⟨rfl, rfl⟩ ⟨Nat.le_of_ble_eq_true rfl, Nat.le_of_ble_eq_true rfl⟩ ⟨Nat.zero_le _, Nat.zero_le _⟩ rfl rfl (Nat.le_of_ble_eq_true rfl) ?_
  refine x_if_eq C dX12_meet_10 34 (by decide) 13 rfl (fun hc => ?_) (fun hc => ?_)
  · have hf := (if_pos hc).symm.trans hf
    exact jnX12_meet_m_34 C hf hE
  · have hf := (if_neg hc).symm.trans hf
    refine x_iload_n C dX12_meet_13 14 rfl 2 rfl rfl ?_
    obtain ⟨w14, hw14, hf⟩ := x_bind hf
    refine x_callSi C dX12_meet_14 17 rfl (cX12_isPlacec hw14) kX12_isPlace ksX12_isPlace w1942 ⟨rfl, rfl⟩ ⟨Nat.le_of_ble_eq_true rfl, Nat.le_of_ble_eq_true rfl⟩ ⟨Nat.zero_le _, Nat.zero_le _⟩ rfl rfl (Nat.le_of_ble_eq_true rfl) ?_
    refine x_if_eq C dX12_meet_17 34 (by decide) 20 rfl (fun hc => ?_) (fun hc => ?_)
    · have hf := (if_pos hc).symm.trans hf
      exact jnX12_meet_m_34 C hf hE
    · have hf := (if_neg hc).symm.trans hf
      refine x_iload_n C dX12_meet_20 21 rfl 3 rfl rfl ?_
      refine x_i2l C dX12_meet_21 22 rfl ?_
      refine x_lconst C dX12_meet_22 23 rfl 0 (by decide) ?_
      refine x_lconst C dX12_meet_23 24 rfl 1 (by decide) ?_
      obtain ⟨w24, hw24, hf⟩ := x_bind hf
      refine x_callSi C dX12_meet_24 27 rfl (cX12_isInc hw24) kX12_isIn ksX12_isIn w1645 ⟨rfl, rfl⟩ ⟨Nat.le_of_ble_eq_true rfl, Nat.le_of_ble_eq_true rfl⟩ ⟨Nat.zero_le _, Nat.zero_le _⟩ rfl rfl (Nat.le_of_ble_eq_true rfl) ?_
      refine x_if_eq C dX12_meet_27 34 (by decide) 30 rfl (fun hc => ?_) (fun hc => ?_)
      · have hf := (if_pos hc).symm.trans hf
        exact jnX12_meet_m_34 C hf hE
      · have hf := (if_neg hc).symm.trans hf
        refine x_iconst C dX12_meet_30 31 rfl 1 (by decide) ?_
        refine x_goto C dX12_meet_31 35 (by decide) ?_
        exact jnX12_meet_m_35 C hf hE
theorem dX12_must_0 : decode cX12_must 0 = .ok (.aload_n 0, 1) := by decide +kernel
theorem dX12_must_1 : decode cX12_must 1 = .ok (.invokevirtual 212, 3) := by decide +kernel
theorem dX12_must_4 : decode cX12_must 4 = .ok (.ifCond .eq 28, 3) := by decide +kernel
theorem dX12_must_7 : decode cX12_must 7 = .ok (.aload_n 0, 1) := by decide +kernel
theorem dX12_must_8 : decode cX12_must 8 = .ok (.aload_n 0, 1) := by decide +kernel
theorem dX12_must_9 : decode cX12_must 9 = .ok (.getfield 195, 3) := by decide +kernel
theorem dX12_must_12 : decode cX12_must 12 = .ok (.iload_n 1, 1) := by decide +kernel
theorem dX12_must_13 : decode cX12_must 13 = .ok (.if_icmp .ne 7, 3) := by decide +kernel
theorem dX12_must_16 : decode cX12_must 16 = .ok (.iconst 1, 1) := by decide +kernel
theorem dX12_must_17 : decode cX12_must 17 = .ok (.goto 4, 3) := by decide +kernel
theorem dX12_must_20 : decode cX12_must 20 = .ok (.iconst 0, 1) := by decide +kernel
theorem dX12_must_21 : decode cX12_must 21 = .ok (.iconst 1, 1) := by decide +kernel
theorem dX12_must_22 : decode cX12_must 22 = .ok (.invokevirtual 225, 3) := by decide +kernel
theorem dX12_must_25 : decode cX12_must 25 = .ok (.ifCond .eq 7, 3) := by decide +kernel
theorem dX12_must_28 : decode cX12_must 28 = .ok (.aload_n 0, 1) := by decide +kernel
theorem dX12_must_29 : decode cX12_must 29 = .ok (.invokevirtual 229, 3) := by decide +kernel
theorem dX12_must_32 : decode cX12_must 32 = .ok (.return_, 1) := by decide +kernel
abbrev rmX12_must : Room := { frames := 3, cells := 0, slots := 0, locals := 81 }
noncomputable def fX12_must (σ : St) (x0 : Nat) (x1 : Int32) : Option (St) :=
(isO σ x0 11).bind fun _ =>
(fX12_fine σ x0).bind fun w1 =>
if w1 = 0 then
(some σ)
else
((gI σ x0 11 11).bind fun v9 =>
if v9 = x1 then
((isO σ x0 11).bind fun _ =>
(fX12_check σ x0 1 1).bind fun w22 =>
if w22.1 = 0 then
(some w22.2)
else
((isO w22.2 x0 11).bind fun _ =>
(fX12_goes w22.2 x0).bind fun w29 =>
some w29))
else
((isO σ x0 11).bind fun _ =>
(fX12_check σ x0 0 1).bind fun w22 =>
if w22.1 = 0 then
(some w22.2)
else
((isO w22.2 x0 11).bind fun _ =>
(fX12_goes w22.2 x0).bind fun w29 =>
some w29)))
set_option maxHeartbeats 4000000 in
set_option maxRecDepth 100000 in
theorem cX12_mustc {l : Launch} {G : xG} {A : Nat → Prop} {σ : St} {x0 : Nat} {x1 : Int32} {c : St} (hf : fX12_must σ x0 x1 = some c) : Con l yX12_must (xws yX12_must cX12_must 2 none) rmX12_must [.ref (x0), .int (x1)] G A σ none c := by
  refine x_start rfl (Nat.le_of_ble_eq_true rfl) (fun X _ _ _ C hE0 => ?_)
  have hE : ∀ r, c = r → xE1 X none r := fun r e => e ▸ hE0
  show V X (0, 0) σ 0 [(0, .ref (x0)), (1, .int (x1))] []
  unfold fX12_must at hf
  refine x_aload_n C dX12_must_0 1 rfl 0 rfl rfl ?_
  obtain ⟨o1, ho1, hf⟩ := x_bind hf
  obtain ⟨w1, hw1, hf⟩ := x_bind hf
  refine x_callVi C dX12_must_1 4 rfl ho1 cl11.1 rfl (cX12_finec hw1) kX12_fine kvX12_fine w1683 ⟨rfl, rfl⟩ ⟨Nat.le_of_ble_eq_true rfl, Nat.le_of_ble_eq_true rfl⟩ ⟨Nat.zero_le _, Nat.zero_le _⟩ rfl rfl (Nat.le_of_ble_eq_true rfl) ?_
  refine x_if_eq C dX12_must_4 32 (by decide) 7 rfl (fun hc => ?_) (fun hc => ?_)
  · have hf := (if_pos hc).symm.trans hf
    exact x_vret C (hE _ (Option.some.inj hf).symm) dX12_must_32
  · have hf := (if_neg hc).symm.trans hf
    refine x_aload_n C dX12_must_7 8 rfl 0 rfl rfl ?_
    refine x_aload_n C dX12_must_8 9 rfl 0 rfl rfl ?_
    obtain ⟨v9, hv9, hf⟩ := x_bind hf
    refine x_getI C dX12_must_9 12 rfl hv9 cl11 rfl w1454 ?_
    refine x_iload_n C dX12_must_12 13 rfl 1 rfl rfl ?_
    refine x_icmp_ne C dX12_must_13 20 (by decide) 16 rfl (fun hc => ?_) (fun hc => ?_)
    · have hf := (if_neg hc).symm.trans hf
      refine x_iconst C dX12_must_20 21 rfl 0 (by decide) ?_
      refine x_iconst C dX12_must_21 22 rfl 1 (by decide) ?_
      obtain ⟨o22, ho22, hf⟩ := x_bind hf
      obtain ⟨w22, hw22, hf⟩ := x_bind hf
      refine x_callVi C dX12_must_22 25 rfl ho22 cl11.1 rfl (cX12_checkc hw22) kX12_check kvX12_check w1679 ⟨rfl, rfl⟩ ⟨Nat.le_of_ble_eq_true rfl, Nat.le_of_ble_eq_true rfl⟩ ⟨Nat.zero_le _, Nat.zero_le _⟩ rfl rfl (Nat.le_of_ble_eq_true rfl) ?_
      refine x_if_eq C dX12_must_25 32 (by decide) 28 rfl (fun hc => ?_) (fun hc => ?_)
      · have hf := (if_pos hc).symm.trans hf
        exact x_vret C (hE _ (Option.some.inj hf).symm) dX12_must_32
      · have hf := (if_neg hc).symm.trans hf
        refine x_aload_n C dX12_must_28 29 rfl 0 rfl rfl ?_
        obtain ⟨o29, ho29, hf⟩ := x_bind hf
        obtain ⟨w29, hw29, hf⟩ := x_bind hf
        refine x_callVv C dX12_must_29 32 rfl ho29 cl11.1 rfl (cX12_goesc hw29) kX12_goes kvX12_goes w1652 ⟨rfl, rfl⟩ ⟨Nat.le_of_ble_eq_true rfl, Nat.le_of_ble_eq_true rfl⟩ ⟨Nat.zero_le _, Nat.zero_le _⟩ rfl rfl (Nat.le_of_ble_eq_true rfl) ?_
        exact x_vret C (hE _ (Option.some.inj hf).symm) dX12_must_32
    · have hf := (if_pos hc).symm.trans hf
      refine x_iconst C dX12_must_16 17 rfl 1 (by decide) ?_
      refine x_goto C dX12_must_17 21 (by decide) ?_
      refine x_iconst C dX12_must_21 22 rfl 1 (by decide) ?_
      obtain ⟨o22, ho22, hf⟩ := x_bind hf
      obtain ⟨w22, hw22, hf⟩ := x_bind hf
      refine x_callVi C dX12_must_22 25 rfl ho22 cl11.1 rfl (cX12_checkc hw22) kX12_check kvX12_check w1679 ⟨rfl, rfl⟩ ⟨Nat.le_of_ble_eq_true rfl, Nat.le_of_ble_eq_true rfl⟩ ⟨Nat.zero_le _, Nat.zero_le _⟩ rfl rfl (Nat.le_of_ble_eq_true rfl) ?_
      refine x_if_eq C dX12_must_25 32 (by decide) 28 rfl (fun hc => ?_) (fun hc => ?_)
      · have hf := (if_pos hc).symm.trans hf
        exact x_vret C (hE _ (Option.some.inj hf).symm) dX12_must_32
      · have hf := (if_neg hc).symm.trans hf
        refine x_aload_n C dX12_must_28 29 rfl 0 rfl rfl ?_
        obtain ⟨o29, ho29, hf⟩ := x_bind hf
        obtain ⟨w29, hw29, hf⟩ := x_bind hf
        refine x_callVv C dX12_must_29 32 rfl ho29 cl11.1 rfl (cX12_goesc hw29) kX12_goes kvX12_goes w1652 ⟨rfl, rfl⟩ ⟨Nat.le_of_ble_eq_true rfl, Nat.le_of_ble_eq_true rfl⟩ ⟨Nat.zero_le _, Nat.zero_le _⟩ rfl rfl (Nat.le_of_ble_eq_true rfl) ?_
        exact x_vret C (hE _ (Option.some.inj hf).symm) dX12_must_32
theorem dX12_normals_0 : decode cX12_normals 0 = .ok (.iconst 0, 1) := by decide +kernel
theorem dX12_normals_1 : decode cX12_normals 1 = .ok (.istore_n 1, 1) := by decide +kernel
theorem dX12_normals_2 : decode cX12_normals 2 = .ok (.iconst 0, 1) := by decide +kernel
theorem dX12_normals_3 : decode cX12_normals 3 = .ok (.istore_n 2, 1) := by decide +kernel
theorem dX12_normals_4 : decode cX12_normals 4 = .ok (.iload_n 2, 1) := by decide +kernel
theorem dX12_normals_5 : decode cX12_normals 5 = .ok (.aload_n 0, 1) := by decide +kernel
theorem dX12_normals_6 : decode cX12_normals 6 = .ok (.getfield 49, 3) := by decide +kernel
theorem dX12_normals_9 : decode cX12_normals 9 = .ok (.iconst 0, 1) := by decide +kernel
theorem dX12_normals_10 : decode cX12_normals 10 = .ok (.iaload, 1) := by decide +kernel
theorem dX12_normals_11 : decode cX12_normals 11 = .ok (.if_icmp .ge 30, 3) := by decide +kernel
theorem dX12_normals_14 : decode cX12_normals 14 = .ok (.iload_n 1, 1) := by decide +kernel
theorem dX12_normals_15 : decode cX12_normals 15 = .ok (.aload_n 0, 1) := by decide +kernel
theorem dX12_normals_16 : decode cX12_normals 16 = .ok (.aload_n 0, 1) := by decide +kernel
theorem dX12_normals_17 : decode cX12_normals 17 = .ok (.getfield 43, 3) := by decide +kernel
theorem dX12_normals_20 : decode cX12_normals 20 = .ok (.iload_n 2, 1) := by decide +kernel
theorem dX12_normals_21 : decode cX12_normals 21 = .ok (.laload, 1) := by decide +kernel
theorem dX12_normals_22 : decode cX12_normals 22 = .ok (.invokevirtual 322, 3) := by decide +kernel
theorem dX12_normals_25 : decode cX12_normals 25 = .ok (.ifCond .eq 7, 3) := by decide +kernel
theorem dX12_normals_28 : decode cX12_normals 28 = .ok (.iconst 1, 1) := by decide +kernel
theorem dX12_normals_29 : decode cX12_normals 29 = .ok (.goto 4, 3) := by decide +kernel
theorem dX12_normals_32 : decode cX12_normals 32 = .ok (.iconst 0, 1) := by decide +kernel
theorem dX12_normals_33 : decode cX12_normals 33 = .ok (.iadd, 1) := by decide +kernel
theorem dX12_normals_34 : decode cX12_normals 34 = .ok (.istore_n 1, 1) := by decide +kernel
theorem dX12_normals_35 : decode cX12_normals 35 = .ok (.iinc 2 1, 3) := by decide +kernel
theorem dX12_normals_38 : decode cX12_normals 38 = .ok (.goto (-34), 3) := by decide +kernel
theorem dX12_normals_41 : decode cX12_normals 41 = .ok (.iload_n 1, 1) := by decide +kernel
theorem dX12_normals_42 : decode cX12_normals 42 = .ok (.ireturn, 1) := by decide +kernel
abbrev rmX12_normals : Room := { frames := 6, cells := 0, slots := 0, locals := 151 }
noncomputable def fLX12_normals_4 (x0 : Nat) (a : Int32 × Int32 × St) : Option ((Int32 × Int32 × St) ⊕ (Int32 × St)) :=
(gR a.2.2 x0 11 27).bind fun v6 =>
(aI a.2.2 v6 0 0).bind fun v10 =>
if v10 ≤ a.2.1 then
(some (Sum.inr (a.1, a.2.2)))
else
((gR a.2.2 x0 11 25).bind fun v17 =>
(aL a.2.2 v17 a.2.1).bind fun v21 =>
(isO a.2.2 x0 11).bind fun _ =>
(fX12_isNormal a.2.2 x0 v21).bind fun w22 =>
if w22.1 = 0 then
(xlet (a.1 + 0) fun v34 =>
xlet (a.2.1 + 1) fun v35 =>
some (Sum.inl (v34, v35, w22.2)))
else
(xlet (a.1 + 1) fun v34 =>
xlet (a.2.1 + 1) fun v35 =>
some (Sum.inl (v34, v35, w22.2))))
set_option maxHeartbeats 4000000 in
set_option maxRecDepth 100000 in
theorem lpX12_normals_4 {X : xX} {x0 : Nat}  {a0 : Int32 × Int32 × St} {b : Int32 × St} (C : Ok X cX12_normals 3 RX12 rmX12_normals (some .int)) (hb : iterP (fLX12_normals_4 x0) a0 = some b) (hy0 : ∀ s, b = s → V X (0, 0) s.2 41 [(1, .int (s.1))] []) : V X (0, 0) a0.2.2 4 [(0, .ref (x0)), (1, .int (a0.1)), (2, .int (a0.2.1))] [] := by
  obtain ⟨n, hn⟩ := iterP_some hb
  refine x_loop (P := fun a => V X (0, 0) a.2.2 4 [(0, .ref (x0)), (1, .int (a.1)), (2, .int (a.2.1))] []) ?_ n a0 hn
  intro a c hf hK hxx
  have hx0 : ∀ s, c = Sum.inr s → V X (0, 0) s.2 41 [(1, .int (s.1))] [] := fun s e => hy0 s (hxx _ e).symm
  unfold fLX12_normals_4 at hf
  refine x_iload_n C dX12_normals_4 5 rfl 2 rfl rfl ?_
  refine x_aload_n C dX12_normals_5 6 rfl 0 rfl rfl ?_
  obtain ⟨v6, hv6, hf⟩ := x_bind hf
  refine x_getR C dX12_normals_6 9 rfl hv6 cl11 rfl w1470 ?_
  refine x_iconst C dX12_normals_9 10 rfl 0 (by decide) ?_
  obtain ⟨v10, hv10, hf⟩ := x_bind hf
  refine x_iaload C dX12_normals_10 11 rfl hv10 ?_
  refine x_icmp_ge C dX12_normals_11 41 (by decide) 14 rfl (fun hc => ?_) (fun hc => ?_)
  · have hf := (if_pos hc).symm.trans hf
    refine x_lv [1] (lv' := [(1, .int (a.1))]) rfl ?_
    exact hx0 _ (Option.some.inj hf).symm
  · have hf := (if_neg hc).symm.trans hf
    refine x_iload_n C dX12_normals_14 15 rfl 1 rfl rfl ?_
    refine x_aload_n C dX12_normals_15 16 rfl 0 rfl rfl ?_
    refine x_aload_n C dX12_normals_16 17 rfl 0 rfl rfl ?_
    obtain ⟨v17, hv17, hf⟩ := x_bind hf
    refine x_getR C dX12_normals_17 20 rfl hv17 cl11 rfl w1468 ?_
    refine x_iload_n C dX12_normals_20 21 rfl 2 rfl rfl ?_
    obtain ⟨v21, hv21, hf⟩ := x_bind hf
    refine x_laload C dX12_normals_21 22 rfl hv21 ?_
    obtain ⟨o22, ho22, hf⟩ := x_bind hf
    obtain ⟨w22, hw22, hf⟩ := x_bind hf
    refine x_callVi C dX12_normals_22 25 rfl ho22 cl11.1 rfl (cX12_isNormalc hw22) kX12_isNormal kvX12_isNormal w1806 ⟨rfl, rfl⟩ ⟨Nat.le_of_ble_eq_true rfl, Nat.le_of_ble_eq_true rfl⟩ ⟨Nat.zero_le _, Nat.zero_le _⟩ rfl rfl (Nat.le_of_ble_eq_true rfl) ?_
    refine x_if_eq C dX12_normals_25 32 (by decide) 28 rfl (fun hc => ?_) (fun hc => ?_)
    · have hf := (if_pos hc).symm.trans hf
      refine x_iconst C dX12_normals_32 33 rfl 0 (by decide) ?_
      refine x_iadd C dX12_normals_33 34 rfl ?_
      obtain ⟨v34, ev34, hf⟩ := xlet_some hf
      refine x_topi ev34 ?_
      refine x_istore_n C dX12_normals_34 35 rfl rfl rfl [(1, .int (v34)), (0, .ref (x0)), (2, .int (a.2.1))] rfl ?_
      obtain ⟨v35, ev35, hf⟩ := xlet_some hf
      refine x_iinc C dX12_normals_35 38 rfl 2 rfl v35 ev35 rfl [(2, .int (v35)), (1, .int (v34)), (0, .ref (x0))] rfl ?_
      refine x_goto C dX12_normals_38 4 (by decide) ?_
      refine x_lv [2, 1, 0] (lv' := [(0, .ref (x0)), (1, .int (v34)), (2, .int (v35))]) rfl ?_
      exact hK _ (Option.some.inj hf).symm
    · have hf := (if_neg hc).symm.trans hf
      refine x_iconst C dX12_normals_28 29 rfl 1 (by decide) ?_
      refine x_goto C dX12_normals_29 33 (by decide) ?_
      refine x_iadd C dX12_normals_33 34 rfl ?_
      obtain ⟨v34, ev34, hf⟩ := xlet_some hf
      refine x_topi ev34 ?_
      refine x_istore_n C dX12_normals_34 35 rfl rfl rfl [(1, .int (v34)), (0, .ref (x0)), (2, .int (a.2.1))] rfl ?_
      obtain ⟨v35, ev35, hf⟩ := xlet_some hf
      refine x_iinc C dX12_normals_35 38 rfl 2 rfl v35 ev35 rfl [(2, .int (v35)), (1, .int (v34)), (0, .ref (x0))] rfl ?_
      refine x_goto C dX12_normals_38 4 (by decide) ?_
      refine x_lv [2, 1, 0] (lv' := [(0, .ref (x0)), (1, .int (v34)), (2, .int (v35))]) rfl ?_
      exact hK _ (Option.some.inj hf).symm
noncomputable def fX12_normals (σ : St) (x0 : Nat) : Option ((Int32 × St)) :=
(iterP (fLX12_normals_4 x0) (0, 0, σ)).bind fun b4 =>
some (b4.1, b4.2)
set_option maxHeartbeats 4000000 in
set_option maxRecDepth 100000 in
theorem cX12_normalsc {l : Launch} {G : xG} {A : Nat → Prop} {σ : St} {x0 : Nat} {c : (Int32 × St)} (hf : fX12_normals σ x0 = some c) : Con l yX12_normals (xws yX12_normals cX12_normals 3 (some .int)) rmX12_normals [.ref (x0)] G A σ (some (.int c.1)) c.2 := by
  refine x_start rfl (Nat.le_of_ble_eq_true rfl) (fun X _ _ _ C hE0 => ?_)
  have hE : ∀ r, c = r → xE1 X (some (.int r.1)) r.2 := fun r e => e ▸ hE0
  show V X (0, 0) σ 0 [(0, .ref (x0))] []
  unfold fX12_normals at hf
  refine x_iconst C dX12_normals_0 1 rfl 0 (by decide) ?_
  refine x_istore_n C dX12_normals_1 2 rfl rfl rfl [(1, .int (0)), (0, .ref (x0))] rfl ?_
  refine x_iconst C dX12_normals_2 3 rfl 0 (by decide) ?_
  refine x_istore_n C dX12_normals_3 4 rfl rfl rfl [(2, .int (0)), (1, .int (0)), (0, .ref (x0))] rfl ?_
  obtain ⟨b4, hb4, hf⟩ := x_bind hf
  refine x_lv [2, 1, 0] (lv' := [(0, .ref (x0)), (1, .int (0)), (2, .int (0))]) rfl ?_
  refine lpX12_normals_4 C hb4 (fun s4 e4 => ?_)
  subst e4
  refine x_iload_n C dX12_normals_41 42 rfl 0 rfl rfl ?_
  exact x_iret C (hE _ (Option.some.inj hf).symm) dX12_normals_42
theorem dX12_number_0 : decode cX12_number 0 = .ok (.aload_n 0, 1) := by decide +kernel
theorem dX12_number_1 : decode cX12_number 1 = .ok (.invokevirtual 212, 3) := by decide +kernel
theorem dX12_number_4 : decode cX12_number 4 = .ok (.ifCond .eq 46, 3) := by decide +kernel
theorem dX12_number_7 : decode cX12_number 7 = .ok (.aload_n 0, 1) := by decide +kernel
theorem dX12_number_8 : decode cX12_number 8 = .ok (.aload_n 0, 1) := by decide +kernel
theorem dX12_number_9 : decode cX12_number 9 = .ok (.getfield 195, 3) := by decide +kernel
theorem dX12_number_12 : decode cX12_number 12 = .ok (.sipush 1001, 3) := by decide +kernel
theorem dX12_number_15 : decode cX12_number 15 = .ok (.if_icmp .ne 7, 3) := by decide +kernel
theorem dX12_number_18 : decode cX12_number 18 = .ok (.iconst 1, 1) := by decide +kernel
theorem dX12_number_19 : decode cX12_number 19 = .ok (.goto 4, 3) := by decide +kernel
theorem dX12_number_22 : decode cX12_number 22 = .ok (.iconst 0, 1) := by decide +kernel
theorem dX12_number_23 : decode cX12_number 23 = .ok (.iconst 1, 1) := by decide +kernel
theorem dX12_number_24 : decode cX12_number 24 = .ok (.invokevirtual 225, 3) := by decide +kernel
theorem dX12_number_27 : decode cX12_number 27 = .ok (.ifCond .eq 23, 3) := by decide +kernel
theorem dX12_number_30 : decode cX12_number 30 = .ok (.aload_n 0, 1) := by decide +kernel
theorem dX12_number_31 : decode cX12_number 31 = .ok (.aload_n 0, 1) := by decide +kernel
theorem dX12_number_32 : decode cX12_number 32 = .ok (.getfield 205, 3) := by decide +kernel
theorem dX12_number_35 : decode cX12_number 35 = .ok (.i2l, 1) := by decide +kernel
theorem dX12_number_36 : decode cX12_number 36 = .ok (.iload_n 1, 1) := by decide +kernel
theorem dX12_number_37 : decode cX12_number 37 = .ok (.i2l, 1) := by decide +kernel
theorem dX12_number_38 : decode cX12_number 38 = .ok (.iload_n 2, 1) := by decide +kernel
theorem dX12_number_39 : decode cX12_number 39 = .ok (.i2l, 1) := by decide +kernel
theorem dX12_number_40 : decode cX12_number 40 = .ok (.invokestatic 130, 3) := by decide +kernel
theorem dX12_number_43 : decode cX12_number 43 = .ok (.iconst 2, 1) := by decide +kernel
theorem dX12_number_44 : decode cX12_number 44 = .ok (.invokevirtual 225, 3) := by decide +kernel
theorem dX12_number_47 : decode cX12_number 47 = .ok (.ifCond .ne 5, 3) := by decide +kernel
theorem dX12_number_50 : decode cX12_number 50 = .ok (.iload_n 1, 1) := by decide +kernel
theorem dX12_number_51 : decode cX12_number 51 = .ok (.ireturn, 1) := by decide +kernel
theorem dX12_number_52 : decode cX12_number 52 = .ok (.aload_n 0, 1) := by decide +kernel
theorem dX12_number_53 : decode cX12_number 53 = .ok (.getfield 205, 3) := by decide +kernel
theorem dX12_number_56 : decode cX12_number 56 = .ok (.istore_n 3, 1) := by decide +kernel
theorem dX12_number_57 : decode cX12_number 57 = .ok (.aload_n 0, 1) := by decide +kernel
theorem dX12_number_58 : decode cX12_number 58 = .ok (.invokevirtual 229, 3) := by decide +kernel
theorem dX12_number_61 : decode cX12_number 61 = .ok (.iload_n 3, 1) := by decide +kernel
theorem dX12_number_62 : decode cX12_number 62 = .ok (.ireturn, 1) := by decide +kernel
abbrev rmX12_number : Room := { frames := 3, cells := 0, slots := 0, locals := 81 }
noncomputable def fJX12_number_m_23 (σ : St) (x0 : Nat) (x1 : Int32) (x2 : Int32) (t0 : Int32) (t1 : Nat) : Option ((Int32 × St)) :=
(isO σ t1 11).bind fun _ =>
(fX12_check σ t1 t0 1).bind fun w24 =>
if w24.1 = 0 then
(some (x1, w24.2))
else
((gI w24.2 x0 11 12).bind fun v32 =>
(fX12_isIn v32.toInt64 x1.toInt64 x2.toInt64).bind fun w40 =>
(isO w24.2 x0 11).bind fun _ =>
(fX12_check w24.2 x0 w40 2).bind fun w44 =>
if w44.1 = 0 then
(some (x1, w44.2))
else
((gI w44.2 x0 11 12).bind fun v53 =>
(isO w44.2 x0 11).bind fun _ =>
(fX12_goes w44.2 x0).bind fun w58 =>
some (v53, w58)))
set_option maxHeartbeats 4000000 in
set_option maxRecDepth 100000 in
theorem jnX12_number_m_23 {X : xX} {σ : St} {x0 : Nat} {x1 : Int32} {x2 : Int32} {t0 : Int32} {t1 : Nat}  {c : (Int32 × St)} (C : Ok X cX12_number 4 RX12 rmX12_number (some .int)) (hf : fJX12_number_m_23 σ x0 x1 x2 t0 t1 = some c) (hE : ∀ r, c = r → xE1 X (some (.int r.1)) r.2) : V X (0, 0) σ 23 [(0, .ref (x0)), (1, .int (x1)), (2, .int (x2))] [.int (t0), .ref (t1)] := by
  unfold fJX12_number_m_23 at hf
  refine x_iconst C dX12_number_23 24 rfl 1 (by decide) ?_
  obtain ⟨o24, ho24, hf⟩ := x_bind hf
  obtain ⟨w24, hw24, hf⟩ := x_bind hf
  refine x_callVi C dX12_number_24 27 rfl ho24 cl11.1 rfl (cX12_checkc hw24) kX12_check kvX12_check w1679 ⟨rfl, rfl⟩ ⟨Nat.le_of_ble_eq_true rfl, Nat.le_of_ble_eq_true rfl⟩ ⟨Nat.zero_le _, Nat.zero_le _⟩ rfl rfl (Nat.le_of_ble_eq_true rfl) ?_
  refine x_if_eq C dX12_number_27 50 (by decide) 30 rfl (fun hc => ?_) (fun hc => ?_)
  · have hf := (if_pos hc).symm.trans hf
    refine x_iload_n C dX12_number_50 51 rfl 1 rfl rfl ?_
    exact x_iret C (hE _ (Option.some.inj hf).symm) dX12_number_51
  · have hf := (if_neg hc).symm.trans hf
    refine x_aload_n C dX12_number_30 31 rfl 0 rfl rfl ?_
    refine x_aload_n C dX12_number_31 32 rfl 0 rfl rfl ?_
    obtain ⟨v32, hv32, hf⟩ := x_bind hf
    refine x_getI C dX12_number_32 35 rfl hv32 cl11 rfl w1455 ?_
    refine x_i2l C dX12_number_35 36 rfl ?_
    refine x_iload_n C dX12_number_36 37 rfl 1 rfl rfl ?_
    refine x_i2l C dX12_number_37 38 rfl ?_
    refine x_iload_n C dX12_number_38 39 rfl 2 rfl rfl ?_
    refine x_i2l C dX12_number_39 40 rfl ?_
    obtain ⟨w40, hw40, hf⟩ := x_bind hf
    refine x_callSi C dX12_number_40 43 rfl (cX12_isInc hw40) kX12_isIn ksX12_isIn w1645 ⟨rfl, rfl⟩ ⟨Nat.le_of_ble_eq_true rfl, Nat.le_of_ble_eq_true rfl⟩ ⟨Nat.zero_le _, Nat.zero_le _⟩ rfl rfl (Nat.le_of_ble_eq_true rfl) ?_
    refine x_iconst C dX12_number_43 44 rfl 2 (by decide) ?_
    obtain ⟨o44, ho44, hf⟩ := x_bind hf
    obtain ⟨w44, hw44, hf⟩ := x_bind hf
    refine x_callVi C dX12_number_44 47 rfl ho44 cl11.1 rfl (cX12_checkc hw44) kX12_check kvX12_check w1679 ⟨rfl, rfl⟩ ⟨Nat.le_of_ble_eq_true rfl, Nat.le_of_ble_eq_true rfl⟩ ⟨Nat.zero_le _, Nat.zero_le _⟩ rfl rfl (Nat.le_of_ble_eq_true rfl) ?_
    refine x_if_ne C dX12_number_47 52 (by decide) 50 rfl (fun hc => ?_) (fun hc => ?_)
    · have hf := (if_neg hc).symm.trans hf
      refine x_aload_n C dX12_number_52 53 rfl 0 rfl rfl ?_
      obtain ⟨v53, hv53, hf⟩ := x_bind hf
      refine x_getI C dX12_number_53 56 rfl hv53 cl11 rfl w1455 ?_
      refine x_istore_n C dX12_number_56 57 rfl rfl rfl [(3, .int (v53)), (0, .ref (x0)), (1, .int (x1)), (2, .int (x2))] rfl ?_
      refine x_aload_n C dX12_number_57 58 rfl 1 rfl rfl ?_
      obtain ⟨o58, ho58, hf⟩ := x_bind hf
      obtain ⟨w58, hw58, hf⟩ := x_bind hf
      refine x_callVv C dX12_number_58 61 rfl ho58 cl11.1 rfl (cX12_goesc hw58) kX12_goes kvX12_goes w1652 ⟨rfl, rfl⟩ ⟨Nat.le_of_ble_eq_true rfl, Nat.le_of_ble_eq_true rfl⟩ ⟨Nat.zero_le _, Nat.zero_le _⟩ rfl rfl (Nat.le_of_ble_eq_true rfl) ?_
      refine x_iload_n C dX12_number_61 62 rfl 0 rfl rfl ?_
      exact x_iret C (hE _ (Option.some.inj hf).symm) dX12_number_62
    · have hf := (if_pos hc).symm.trans hf
      refine x_iload_n C dX12_number_50 51 rfl 1 rfl rfl ?_
      exact x_iret C (hE _ (Option.some.inj hf).symm) dX12_number_51
noncomputable def fX12_number (σ : St) (x0 : Nat) (x1 : Int32) (x2 : Int32) : Option ((Int32 × St)) :=
(isO σ x0 11).bind fun _ =>
(fX12_fine σ x0).bind fun w1 =>
if w1 = 0 then
(some (x1, σ))
else
((gI σ x0 11 11).bind fun v9 =>
if v9 = ((1001 : Int32)) then
(fJX12_number_m_23 σ x0 x1 x2 1 x0)
else
(fJX12_number_m_23 σ x0 x1 x2 0 x0))
set_option maxHeartbeats 4000000 in
set_option maxRecDepth 100000 in
theorem cX12_numberc {l : Launch} {G : xG} {A : Nat → Prop} {σ : St} {x0 : Nat} {x1 : Int32} {x2 : Int32} {c : (Int32 × St)} (hf : fX12_number σ x0 x1 x2 = some c) : Con l yX12_number (xws yX12_number cX12_number 4 (some .int)) rmX12_number [.ref (x0), .int (x1), .int (x2)] G A σ (some (.int c.1)) c.2 := by
  refine x_start rfl (Nat.le_of_ble_eq_true rfl) (fun X _ _ _ C hE0 => ?_)
  have hE : ∀ r, c = r → xE1 X (some (.int r.1)) r.2 := fun r e => e ▸ hE0
  show V X (0, 0) σ 0 [(0, .ref (x0)), (1, .int (x1)), (2, .int (x2))] []
  unfold fX12_number at hf
  refine x_aload_n C dX12_number_0 1 rfl 0 rfl rfl ?_
  obtain ⟨o1, ho1, hf⟩ := x_bind hf
  obtain ⟨w1, hw1, hf⟩ := x_bind hf
  refine x_callVi C dX12_number_1 4 rfl ho1 cl11.1 rfl (cX12_finec hw1) kX12_fine kvX12_fine w1683 ⟨rfl, rfl⟩ ⟨Nat.le_of_ble_eq_true rfl, Nat.le_of_ble_eq_true rfl⟩ ⟨Nat.zero_le _, Nat.zero_le _⟩ rfl rfl (Nat.le_of_ble_eq_true rfl) ?_
  refine x_if_eq C dX12_number_4 50 (by decide) 7 rfl (fun hc => ?_) (fun hc => ?_)
  · have hf := (if_pos hc).symm.trans hf
    refine x_iload_n C dX12_number_50 51 rfl 1 rfl rfl ?_
    exact x_iret C (hE _ (Option.some.inj hf).symm) dX12_number_51
  · have hf := (if_neg hc).symm.trans hf
    refine x_aload_n C dX12_number_7 8 rfl 0 rfl rfl ?_
    refine x_aload_n C dX12_number_8 9 rfl 0 rfl rfl ?_
    obtain ⟨v9, hv9, hf⟩ := x_bind hf
    refine x_getI C dX12_number_9 12 rfl hv9 cl11 rfl w1454 ?_
    refine x_sipush C dX12_number_12 15 rfl 1001 (by decide) ?_
    refine x_icmp_ne C dX12_number_15 22 (by decide) 18 rfl (fun hc => ?_) (fun hc => ?_)
    · have hf := (if_neg hc).symm.trans hf
      refine x_iconst C dX12_number_22 23 rfl 0 (by decide) ?_
      exact jnX12_number_m_23 C hf hE
    · have hf := (if_pos hc).symm.trans hf
      refine x_iconst C dX12_number_18 19 rfl 1 (by decide) ?_
      refine x_goto C dX12_number_19 23 (by decide) ?_
      exact jnX12_number_m_23 C hf hE
theorem dX12_overlap_0 : decode cX12_overlap 0 = .ok (.aload_n 0, 1) := by decide +kernel
theorem dX12_overlap_1 : decode cX12_overlap 1 = .ok (.iconst 0, 1) := by decide +kernel
theorem dX12_overlap_2 : decode cX12_overlap 2 = .ok (.putfield 1, 3) := by decide +kernel
theorem dX12_overlap_5 : decode cX12_overlap 5 = .ok (.aload_n 0, 1) := by decide +kernel
theorem dX12_overlap_6 : decode cX12_overlap 6 = .ok (.iload_n 1, 1) := by decide +kernel
theorem dX12_overlap_7 : decode cX12_overlap 7 = .ok (.ifCond .lt 19, 3) := by decide +kernel
theorem dX12_overlap_10 : decode cX12_overlap 10 = .ok (.iload_n 2, 1) := by decide +kernel
theorem dX12_overlap_11 : decode cX12_overlap 11 = .ok (.i2l, 1) := by decide +kernel
theorem dX12_overlap_12 : decode cX12_overlap 12 = .ok (.lconst 0, 1) := by decide +kernel
theorem dX12_overlap_13 : decode cX12_overlap 13 = .ok (.ldc2_w 420, 3) := by decide +kernel
theorem dX12_overlap_16 : decode cX12_overlap 16 = .ok (.invokestatic 130, 3) := by decide +kernel
theorem dX12_overlap_19 : decode cX12_overlap 19 = .ok (.ifCond .eq 7, 3) := by decide +kernel
theorem dX12_overlap_22 : decode cX12_overlap 22 = .ok (.iconst 1, 1) := by decide +kernel
theorem dX12_overlap_23 : decode cX12_overlap 23 = .ok (.goto 4, 3) := by decide +kernel
theorem dX12_overlap_26 : decode cX12_overlap 26 = .ok (.iconst 0, 1) := by decide +kernel
theorem dX12_overlap_27 : decode cX12_overlap 27 = .ok (.iconst 1, 1) := by decide +kernel
theorem dX12_overlap_28 : decode cX12_overlap 28 = .ok (.invokevirtual 265, 3) := by decide +kernel
theorem dX12_overlap_31 : decode cX12_overlap 31 = .ok (.ifCond .eq 16, 3) := by decide +kernel
theorem dX12_overlap_34 : decode cX12_overlap 34 = .ok (.aload_n 0, 1) := by decide +kernel
theorem dX12_overlap_35 : decode cX12_overlap 35 = .ok (.aload_n 0, 1) := by decide +kernel
theorem dX12_overlap_36 : decode cX12_overlap 36 = .ok (.iload_n 1, 1) := by decide +kernel
theorem dX12_overlap_37 : decode cX12_overlap 37 = .ok (.invokevirtual 373, 3) := by decide +kernel
theorem dX12_overlap_40 : decode cX12_overlap 40 = .ok (.iconst 1, 1) := by decide +kernel
theorem dX12_overlap_41 : decode cX12_overlap 41 = .ok (.invokevirtual 265, 3) := by decide +kernel
theorem dX12_overlap_44 : decode cX12_overlap 44 = .ok (.ifCond .ne 5, 3) := by decide +kernel
theorem dX12_overlap_47 : decode cX12_overlap 47 = .ok (.iconst 0, 1) := by decide +kernel
theorem dX12_overlap_48 : decode cX12_overlap 48 = .ok (.ireturn, 1) := by decide +kernel
theorem dX12_overlap_49 : decode cX12_overlap 49 = .ok (.iload_n 2, 1) := by decide +kernel
theorem dX12_overlap_50 : decode cX12_overlap 50 = .ok (.iconst 3, 1) := by decide +kernel
theorem dX12_overlap_51 : decode cX12_overlap 51 = .ok (.if_icmp .ge 31, 3) := by decide +kernel
theorem dX12_overlap_54 : decode cX12_overlap 54 = .ok (.iload_n 2, 1) := by decide +kernel
theorem dX12_overlap_55 : decode cX12_overlap 55 = .ok (.ifCond .ne 10, 3) := by decide +kernel
theorem dX12_overlap_58 : decode cX12_overlap 58 = .ok (.aload_n 0, 1) := by decide +kernel
theorem dX12_overlap_59 : decode cX12_overlap 59 = .ok (.getfield 351, 3) := by decide +kernel
theorem dX12_overlap_62 : decode cX12_overlap 62 = .ok (.goto 19, 3) := by decide +kernel
theorem dX12_overlap_65 : decode cX12_overlap 65 = .ok (.iload_n 2, 1) := by decide +kernel
theorem dX12_overlap_66 : decode cX12_overlap 66 = .ok (.iconst 1, 1) := by decide +kernel
theorem dX12_overlap_67 : decode cX12_overlap 67 = .ok (.if_icmp .ne 10, 3) := by decide +kernel
theorem dX12_overlap_70 : decode cX12_overlap 70 = .ok (.aload_n 0, 1) := by decide +kernel
theorem dX12_overlap_71 : decode cX12_overlap 71 = .ok (.getfield 354, 3) := by decide +kernel
theorem dX12_overlap_74 : decode cX12_overlap 74 = .ok (.goto 7, 3) := by decide +kernel
theorem dX12_overlap_77 : decode cX12_overlap 77 = .ok (.aload_n 0, 1) := by decide +kernel
theorem dX12_overlap_78 : decode cX12_overlap 78 = .ok (.getfield 357, 3) := by decide +kernel
theorem dX12_overlap_81 : decode cX12_overlap 81 = .ok (.ireturn, 1) := by decide +kernel
theorem dX12_overlap_82 : decode cX12_overlap 82 = .ok (.iload_n 2, 1) := by decide +kernel
theorem dX12_overlap_83 : decode cX12_overlap 83 = .ok (.iconst 3, 1) := by decide +kernel
theorem dX12_overlap_84 : decode cX12_overlap 84 = .ok (.if_icmp .ne 13, 3) := by decide +kernel
theorem dX12_overlap_87 : decode cX12_overlap 87 = .ok (.aload_n 0, 1) := by decide +kernel
theorem dX12_overlap_88 : decode cX12_overlap 88 = .ok (.getfield 360, 3) := by decide +kernel
theorem dX12_overlap_91 : decode cX12_overlap 91 = .ok (.invokestatic 136, 3) := by decide +kernel
theorem dX12_overlap_94 : decode cX12_overlap 94 = .ok (.goto 15, 3) := by decide +kernel
theorem dX12_overlap_97 : decode cX12_overlap 97 = .ok (.aload_n 0, 1) := by decide +kernel
theorem dX12_overlap_98 : decode cX12_overlap 98 = .ok (.invokevirtual 376, 3) := by decide +kernel
theorem dX12_overlap_101 : decode cX12_overlap 101 = .ok (.ifCond .eq 7, 3) := by decide +kernel
theorem dX12_overlap_104 : decode cX12_overlap 104 = .ok (.iconst 1, 1) := by decide +kernel
theorem dX12_overlap_105 : decode cX12_overlap 105 = .ok (.goto 4, 3) := by decide +kernel
theorem dX12_overlap_108 : decode cX12_overlap 108 = .ok (.iconst 0, 1) := by decide +kernel
theorem dX12_overlap_109 : decode cX12_overlap 109 = .ok (.ireturn, 1) := by decide +kernel
abbrev rmX12_overlap : Room := { frames := 9, cells := 0, slots := 0, locals := 224 }
noncomputable def fJX12_overlap_m_27 (σ : St) (x0 : Nat) (x1 : Int32) (x2 : Int32) (t0 : Int32) (t1 : Nat) : Option ((Int32 × St)) :=
(isO σ t1 11).bind fun _ =>
(fX12_right σ t1 t0 1).bind fun w28 =>
if w28.1 = 0 then
(some (0, w28.2))
else
((isO w28.2 x0 11).bind fun _ =>
(fX12_overlaps w28.2 x0 x1).bind fun w37 =>
(isO w37.2 x0 11).bind fun _ =>
(fX12_right w37.2 x0 w37.1 1).bind fun w41 =>
if w41.1 = 0 then
(some (0, w41.2))
else
(if ((3 : Int32)) ≤ x2 then
(if x2 = ((3 : Int32)) then
((gL w41.2 x0 11 31).bind fun v88 =>
(fX12_length v88).bind fun w91 =>
some (w91, w41.2))
else
((isO w41.2 x0 11).bind fun _ =>
(fX12_closes w41.2 x0).bind fun w98 =>
if w98.1 = 0 then
(some (0, w98.2))
else
(some (1, w98.2))))
else
(if x2 = 0 then
((gI w41.2 x0 11 28).bind fun v59 =>
some (v59, w41.2))
else
(if x2 = ((1 : Int32)) then
((gI w41.2 x0 11 29).bind fun v71 =>
some (v71, w41.2))
else
((gI w41.2 x0 11 30).bind fun v78 =>
some (v78, w41.2))))))
set_option maxHeartbeats 4000000 in
set_option maxRecDepth 100000 in
theorem jnX12_overlap_m_27 {X : xX} {σ : St} {x0 : Nat} {x1 : Int32} {x2 : Int32} {t0 : Int32} {t1 : Nat}  {c : (Int32 × St)} (C : Ok X cX12_overlap 3 RX12 rmX12_overlap (some .int)) (hf : fJX12_overlap_m_27 σ x0 x1 x2 t0 t1 = some c) (hE : ∀ r, c = r → xE1 X (some (.int r.1)) r.2) : V X (0, 0) σ 27 [(0, .ref (x0)), (1, .int (x1)), (2, .int (x2))] [.int (t0), .ref (t1)] := by
  unfold fJX12_overlap_m_27 at hf
  refine x_iconst C dX12_overlap_27 28 rfl 1 (by decide) ?_
  obtain ⟨o28, ho28, hf⟩ := x_bind hf
  obtain ⟨w28, hw28, hf⟩ := x_bind hf
  refine x_callVi C dX12_overlap_28 31 rfl ho28 cl11.1 rfl (cX12_rightc hw28) kX12_right kvX12_right w1648 ⟨rfl, rfl⟩ ⟨Nat.le_of_ble_eq_true rfl, Nat.le_of_ble_eq_true rfl⟩ ⟨Nat.zero_le _, Nat.zero_le _⟩ rfl rfl (Nat.le_of_ble_eq_true rfl) ?_
  refine x_if_eq C dX12_overlap_31 47 (by decide) 34 rfl (fun hc => ?_) (fun hc => ?_)
  · have hf := (if_pos hc).symm.trans hf
    refine x_iconst C dX12_overlap_47 48 rfl 0 (by decide) ?_
    exact x_iret C (hE _ (Option.some.inj hf).symm) dX12_overlap_48
  · have hf := (if_neg hc).symm.trans hf
    refine x_aload_n C dX12_overlap_34 35 rfl 0 rfl rfl ?_
    refine x_aload_n C dX12_overlap_35 36 rfl 0 rfl rfl ?_
    refine x_iload_n C dX12_overlap_36 37 rfl 1 rfl rfl ?_
    obtain ⟨o37, ho37, hf⟩ := x_bind hf
    obtain ⟨w37, hw37, hf⟩ := x_bind hf
    refine x_callVi C dX12_overlap_37 40 rfl ho37 cl11.1 rfl (cX12_overlapsc hw37) kX12_overlaps kvX12_overlaps w1780 ⟨rfl, rfl⟩ ⟨Nat.le_of_ble_eq_true rfl, Nat.le_of_ble_eq_true rfl⟩ ⟨Nat.zero_le _, Nat.zero_le _⟩ rfl rfl (Nat.le_of_ble_eq_true rfl) ?_
    refine x_iconst C dX12_overlap_40 41 rfl 1 (by decide) ?_
    obtain ⟨o41, ho41, hf⟩ := x_bind hf
    obtain ⟨w41, hw41, hf⟩ := x_bind hf
    refine x_callVi C dX12_overlap_41 44 rfl ho41 cl11.1 rfl (cX12_rightc hw41) kX12_right kvX12_right w1648 ⟨rfl, rfl⟩ ⟨Nat.le_of_ble_eq_true rfl, Nat.le_of_ble_eq_true rfl⟩ ⟨Nat.zero_le _, Nat.zero_le _⟩ rfl rfl (Nat.le_of_ble_eq_true rfl) ?_
    refine x_if_ne C dX12_overlap_44 49 (by decide) 47 rfl (fun hc => ?_) (fun hc => ?_)
    · have hf := (if_neg hc).symm.trans hf
      refine x_iload_n C dX12_overlap_49 50 rfl 2 rfl rfl ?_
      refine x_iconst C dX12_overlap_50 51 rfl 3 (by decide) ?_
      refine x_icmp_ge C dX12_overlap_51 82 (by decide) 54 rfl (fun hc => ?_) (fun hc => ?_)
      · have hf := (if_pos hc).symm.trans hf
        refine x_iload_n C dX12_overlap_82 83 rfl 2 rfl rfl ?_
        refine x_iconst C dX12_overlap_83 84 rfl 3 (by decide) ?_
        refine x_icmp_ne C dX12_overlap_84 97 (by decide) 87 rfl (fun hc => ?_) (fun hc => ?_)
        · have hf := (if_neg hc).symm.trans hf
          refine x_aload_n C dX12_overlap_97 98 rfl 0 rfl rfl ?_
          obtain ⟨o98, ho98, hf⟩ := x_bind hf
          obtain ⟨w98, hw98, hf⟩ := x_bind hf
          refine x_callVi C dX12_overlap_98 101 rfl ho98 cl11.1 rfl (cX12_closesc hw98) kX12_closes kvX12_closes w1798 ⟨rfl, rfl⟩ ⟨Nat.le_of_ble_eq_true rfl, Nat.le_of_ble_eq_true rfl⟩ ⟨Nat.zero_le _, Nat.zero_le _⟩ rfl rfl (Nat.le_of_ble_eq_true rfl) ?_
          refine x_if_eq C dX12_overlap_101 108 (by decide) 104 rfl (fun hc => ?_) (fun hc => ?_)
          · have hf := (if_pos hc).symm.trans hf
            refine x_iconst C dX12_overlap_108 109 rfl 0 (by decide) ?_
            exact x_iret C (hE _ (Option.some.inj hf).symm) dX12_overlap_109
          · have hf := (if_neg hc).symm.trans hf
            refine x_iconst C dX12_overlap_104 105 rfl 1 (by decide) ?_
            refine x_goto C dX12_overlap_105 109 (by decide) ?_
            exact x_iret C (hE _ (Option.some.inj hf).symm) dX12_overlap_109
        · have hf := (if_pos hc).symm.trans hf
          refine x_aload_n C dX12_overlap_87 88 rfl 0 rfl rfl ?_
          obtain ⟨v88, hv88, hf⟩ := x_bind hf
          refine x_getL C dX12_overlap_88 91 rfl hv88 cl11 rfl w1474 ?_
          obtain ⟨w91, hw91, hf⟩ := x_bind hf
          refine x_callSi C dX12_overlap_91 94 rfl (cX12_lengthc hw91) kX12_length ksX12_length w1728 ⟨rfl, rfl⟩ ⟨Nat.le_of_ble_eq_true rfl, Nat.le_of_ble_eq_true rfl⟩ ⟨Nat.zero_le _, Nat.zero_le _⟩ rfl rfl (Nat.le_of_ble_eq_true rfl) ?_
          refine x_goto C dX12_overlap_94 109 (by decide) ?_
          exact x_iret C (hE _ (Option.some.inj hf).symm) dX12_overlap_109
      · have hf := (if_neg hc).symm.trans hf
        refine x_iload_n C dX12_overlap_54 55 rfl 2 rfl rfl ?_
        refine x_if_ne C dX12_overlap_55 65 (by decide) 58 rfl (fun hc => ?_) (fun hc => ?_)
        · have hf := (if_neg hc).symm.trans hf
          refine x_iload_n C dX12_overlap_65 66 rfl 2 rfl rfl ?_
          refine x_iconst C dX12_overlap_66 67 rfl 1 (by decide) ?_
          refine x_icmp_ne C dX12_overlap_67 77 (by decide) 70 rfl (fun hc => ?_) (fun hc => ?_)
          · have hf := (if_neg hc).symm.trans hf
            refine x_aload_n C dX12_overlap_77 78 rfl 0 rfl rfl ?_
            obtain ⟨v78, hv78, hf⟩ := x_bind hf
            refine x_getI C dX12_overlap_78 81 rfl hv78 cl11 rfl w1473 ?_
            exact x_iret C (hE _ (Option.some.inj hf).symm) dX12_overlap_81
          · have hf := (if_pos hc).symm.trans hf
            refine x_aload_n C dX12_overlap_70 71 rfl 0 rfl rfl ?_
            obtain ⟨v71, hv71, hf⟩ := x_bind hf
            refine x_getI C dX12_overlap_71 74 rfl hv71 cl11 rfl w1472 ?_
            refine x_goto C dX12_overlap_74 81 (by decide) ?_
            exact x_iret C (hE _ (Option.some.inj hf).symm) dX12_overlap_81
        · have hf := (if_pos hc).symm.trans hf
          refine x_aload_n C dX12_overlap_58 59 rfl 0 rfl rfl ?_
          obtain ⟨v59, hv59, hf⟩ := x_bind hf
          refine x_getI C dX12_overlap_59 62 rfl hv59 cl11 rfl w1471 ?_
          refine x_goto C dX12_overlap_62 81 (by decide) ?_
          exact x_iret C (hE _ (Option.some.inj hf).symm) dX12_overlap_81
    · have hf := (if_pos hc).symm.trans hf
      refine x_iconst C dX12_overlap_47 48 rfl 0 (by decide) ?_
      exact x_iret C (hE _ (Option.some.inj hf).symm) dX12_overlap_48
noncomputable def fJX12_overlap_m_26 (σ : St) (x0 : Nat) (x1 : Int32) (x2 : Int32) (t0 : Nat) : Option ((Int32 × St)) :=
fJX12_overlap_m_27 σ x0 x1 x2 0 t0
set_option maxHeartbeats 4000000 in
set_option maxRecDepth 100000 in
theorem jnX12_overlap_m_26 {X : xX} {σ : St} {x0 : Nat} {x1 : Int32} {x2 : Int32} {t0 : Nat}  {c : (Int32 × St)} (C : Ok X cX12_overlap 3 RX12 rmX12_overlap (some .int)) (hf : fJX12_overlap_m_26 σ x0 x1 x2 t0 = some c) (hE : ∀ r, c = r → xE1 X (some (.int r.1)) r.2) : V X (0, 0) σ 26 [(0, .ref (x0)), (1, .int (x1)), (2, .int (x2))] [.ref (t0)] := by
  unfold fJX12_overlap_m_26 at hf
  refine x_iconst C dX12_overlap_26 27 rfl 0 (by decide) ?_
  exact jnX12_overlap_m_27 C hf hE
noncomputable def fX12_overlap (σ : St) (x0 : Nat) (x1 : Int32) (x2 : Int32) : Option ((Int32 × St)) :=
(wrF σ x0 11 0 (.int (0))).bind fun σ2 =>
if x1 < 0 then
(fJX12_overlap_m_26 σ2 x0 x1 x2 x0)
else
((fX12_isIn x2.toInt64 0 4).bind fun w16 =>
if w16 = 0 then
(fJX12_overlap_m_26 σ2 x0 x1 x2 x0)
else
(fJX12_overlap_m_27 σ2 x0 x1 x2 1 x0))
set_option maxHeartbeats 4000000 in
set_option maxRecDepth 100000 in
theorem cX12_overlapc {l : Launch} {G : xG} {A : Nat → Prop} {σ : St} {x0 : Nat} {x1 : Int32} {x2 : Int32} {c : (Int32 × St)} (hf : fX12_overlap σ x0 x1 x2 = some c) : Con l yX12_overlap (xws yX12_overlap cX12_overlap 3 (some .int)) rmX12_overlap [.ref (x0), .int (x1), .int (x2)] G A σ (some (.int c.1)) c.2 := by
  refine x_start rfl (Nat.le_of_ble_eq_true rfl) (fun X _ _ _ C hE0 => ?_)
  have hE : ∀ r, c = r → xE1 X (some (.int r.1)) r.2 := fun r e => e ▸ hE0
  show V X (0, 0) σ 0 [(0, .ref (x0)), (1, .int (x1)), (2, .int (x2))] []
  unfold fX12_overlap at hf
  refine x_aload_n C dX12_overlap_0 1 rfl 0 rfl rfl ?_
  refine x_iconst C dX12_overlap_1 2 rfl 0 (by decide) ?_
  obtain ⟨σ2, hσ2, hf⟩ := x_bind hf
  refine x_putX C dX12_overlap_2 5 rfl hσ2 cl11 rfl w1443 rfl rfl rfl ?_
  refine x_aload_n C dX12_overlap_5 6 rfl 0 rfl rfl ?_
  refine x_iload_n C dX12_overlap_6 7 rfl 1 rfl rfl ?_
  refine x_if_lt C dX12_overlap_7 26 (by decide) 10 rfl (fun hc => ?_) (fun hc => ?_)
  · have hf := (if_pos hc).symm.trans hf
    exact jnX12_overlap_m_26 C hf hE
  · have hf := (if_neg hc).symm.trans hf
    refine x_iload_n C dX12_overlap_10 11 rfl 2 rfl rfl ?_
    refine x_i2l C dX12_overlap_11 12 rfl ?_
    refine x_lconst C dX12_overlap_12 13 rfl 0 (by decide) ?_
    refine x_ldc2 C dX12_overlap_13 16 rfl w1883 ?_
    obtain ⟨w16, hw16, hf⟩ := x_bind hf
    refine x_callSi C dX12_overlap_16 19 rfl (cX12_isInc hw16) kX12_isIn ksX12_isIn w1645 ⟨rfl, rfl⟩ ⟨Nat.le_of_ble_eq_true rfl, Nat.le_of_ble_eq_true rfl⟩ ⟨Nat.zero_le _, Nat.zero_le _⟩ rfl rfl (Nat.le_of_ble_eq_true rfl) ?_
    refine x_if_eq C dX12_overlap_19 26 (by decide) 22 rfl (fun hc => ?_) (fun hc => ?_)
    · have hf := (if_pos hc).symm.trans hf
      exact jnX12_overlap_m_26 C hf hE
    · have hf := (if_neg hc).symm.trans hf
      refine x_iconst C dX12_overlap_22 23 rfl 1 (by decide) ?_
      refine x_goto C dX12_overlap_23 27 (by decide) ?_
      exact jnX12_overlap_m_27 C hf hE
theorem dX12_puts_0 : decode cX12_puts 0 = .ok (.aload_n 0, 1) := by decide +kernel
theorem dX12_puts_1 : decode cX12_puts 1 = .ok (.getfield 13, 3) := by decide +kernel
theorem dX12_puts_4 : decode cX12_puts 4 = .ok (.iload_n 1, 1) := by decide +kernel
theorem dX12_puts_5 : decode cX12_puts 5 = .ok (.iconst 0, 1) := by decide +kernel
theorem dX12_puts_6 : decode cX12_puts 6 = .ok (.invokestatic 124, 3) := by decide +kernel
theorem dX12_puts_9 : decode cX12_puts 9 = .ok (.lload_n 2, 1) := by decide +kernel
theorem dX12_puts_10 : decode cX12_puts 10 = .ok (.lastore, 1) := by decide +kernel
theorem dX12_puts_11 : decode cX12_puts 11 = .ok (.aload_n 0, 1) := by decide +kernel
theorem dX12_puts_12 : decode cX12_puts 12 = .ok (.getfield 13, 3) := by decide +kernel
theorem dX12_puts_15 : decode cX12_puts 15 = .ok (.iload_n 1, 1) := by decide +kernel
theorem dX12_puts_16 : decode cX12_puts 16 = .ok (.iconst 1, 1) := by decide +kernel
theorem dX12_puts_17 : decode cX12_puts 17 = .ok (.invokestatic 124, 3) := by decide +kernel
theorem dX12_puts_20 : decode cX12_puts 20 = .ok (.lload_n 2, 1) := by decide +kernel
theorem dX12_puts_21 : decode cX12_puts 21 = .ok (.lastore, 1) := by decide +kernel
theorem dX12_puts_22 : decode cX12_puts 22 = .ok (.aload_n 0, 1) := by decide +kernel
theorem dX12_puts_23 : decode cX12_puts 23 = .ok (.getfield 13, 3) := by decide +kernel
theorem dX12_puts_26 : decode cX12_puts 26 = .ok (.iload_n 1, 1) := by decide +kernel
theorem dX12_puts_27 : decode cX12_puts 27 = .ok (.iconst 2, 1) := by decide +kernel
theorem dX12_puts_28 : decode cX12_puts 28 = .ok (.invokestatic 124, 3) := by decide +kernel
theorem dX12_puts_31 : decode cX12_puts 31 = .ok (.lconst 0, 1) := by decide +kernel
theorem dX12_puts_32 : decode cX12_puts 32 = .ok (.lastore, 1) := by decide +kernel
theorem dX12_puts_33 : decode cX12_puts 33 = .ok (.iconst 0, 1) := by decide +kernel
theorem dX12_puts_34 : decode cX12_puts 34 = .ok (.istore 4, 2) := by decide +kernel
theorem dX12_puts_36 : decode cX12_puts 36 = .ok (.iload 4, 2) := by decide +kernel
theorem dX12_puts_38 : decode cX12_puts 38 = .ok (.bipush 40, 2) := by decide +kernel
theorem dX12_puts_40 : decode cX12_puts 40 = .ok (.if_icmp .ge 23, 3) := by decide +kernel
theorem dX12_puts_43 : decode cX12_puts 43 = .ok (.aload_n 0, 1) := by decide +kernel
theorem dX12_puts_44 : decode cX12_puts 44 = .ok (.getfield 13, 3) := by decide +kernel
theorem dX12_puts_47 : decode cX12_puts 47 = .ok (.iload_n 1, 1) := by decide +kernel
theorem dX12_puts_48 : decode cX12_puts 48 = .ok (.iconst 3, 1) := by decide +kernel
theorem dX12_puts_49 : decode cX12_puts 49 = .ok (.iload 4, 2) := by decide +kernel
theorem dX12_puts_51 : decode cX12_puts 51 = .ok (.iadd, 1) := by decide +kernel
theorem dX12_puts_52 : decode cX12_puts 52 = .ok (.invokestatic 124, 3) := by decide +kernel
theorem dX12_puts_55 : decode cX12_puts 55 = .ok (.lconst 0, 1) := by decide +kernel
theorem dX12_puts_56 : decode cX12_puts 56 = .ok (.lastore, 1) := by decide +kernel
theorem dX12_puts_57 : decode cX12_puts 57 = .ok (.iinc 4 1, 3) := by decide +kernel
theorem dX12_puts_60 : decode cX12_puts 60 = .ok (.goto (-24), 3) := by decide +kernel
theorem dX12_puts_63 : decode cX12_puts 63 = .ok (.return_, 1) := by decide +kernel
abbrev rmX12_puts : Room := { frames := 1, cells := 0, slots := 0, locals := 21 }
noncomputable def fLX12_puts_36 (x0 : Nat) (x1 : Int32) (a : Int32 × St) : Option ((Int32 × St) ⊕ (St)) :=
if ((40 : Int32)) ≤ a.1 then
(some (Sum.inr a.2))
else
((gR a.2 x0 11 1).bind fun v44 =>
(fX12_place x1 (3 + a.1)).bind fun w52 =>
(sL a.2 v44 w52 0).bind fun σ56 =>
xlet (a.1 + 1) fun v57 =>
some (Sum.inl (v57, σ56)))
set_option maxHeartbeats 4000000 in
set_option maxRecDepth 100000 in
theorem lpX12_puts_36 {X : xX} {x0 : Nat} {x1 : Int32}  {a0 : Int32 × St} {b : St} (C : Ok X cX12_puts 5 RX12 rmX12_puts none) (hb : iterP (fLX12_puts_36 x0 x1) a0 = some b) (hy0 : ∀ s, b = s → V X (0, 0) s 63 [] []) : V X (0, 0) a0.2 36 [(0, .ref (x0)), (1, .int (x1)), (4, .int (a0.1))] [] := by
  obtain ⟨n, hn⟩ := iterP_some hb
  refine x_loop (P := fun a => V X (0, 0) a.2 36 [(0, .ref (x0)), (1, .int (x1)), (4, .int (a.1))] []) ?_ n a0 hn
  intro a c hf hK hxx
  have hx0 : ∀ s, c = Sum.inr s → V X (0, 0) s 63 [] [] := fun s e => hy0 s (hxx _ e).symm
  unfold fLX12_puts_36 at hf
  refine x_iload C dX12_puts_36 38 rfl 2 rfl ?_
  refine x_bipush C dX12_puts_38 40 rfl 40 (by decide) ?_
  refine x_icmp_ge C dX12_puts_40 63 (by decide) 43 rfl (fun hc => ?_) (fun hc => ?_)
  · have hf := (if_pos hc).symm.trans hf
    refine x_lv [] (lv' := []) rfl ?_
    exact hx0 _ (Option.some.inj hf).symm
  · have hf := (if_neg hc).symm.trans hf
    refine x_aload_n C dX12_puts_43 44 rfl 0 rfl rfl ?_
    obtain ⟨v44, hv44, hf⟩ := x_bind hf
    refine x_getR C dX12_puts_44 47 rfl hv44 cl11 rfl w1444 ?_
    refine x_iload_n C dX12_puts_47 48 rfl 1 rfl rfl ?_
    refine x_iconst C dX12_puts_48 49 rfl 3 (by decide) ?_
    refine x_iload C dX12_puts_49 51 rfl 2 rfl ?_
    refine x_iadd C dX12_puts_51 52 rfl ?_
    obtain ⟨w52, hw52, hf⟩ := x_bind hf
    refine x_callSi C dX12_puts_52 55 rfl (cX12_placec hw52) kX12_place ksX12_place w1849 ⟨rfl, rfl⟩ ⟨Nat.le_of_ble_eq_true rfl, Nat.le_of_ble_eq_true rfl⟩ ⟨Nat.zero_le _, Nat.zero_le _⟩ rfl rfl (Nat.le_of_ble_eq_true rfl) ?_
    refine x_lconst C dX12_puts_55 56 rfl 0 (by decide) ?_
    obtain ⟨σ56, hσ56, hf⟩ := x_bind hf
    refine x_lastore C dX12_puts_56 57 rfl hσ56 ?_
    obtain ⟨v57, ev57, hf⟩ := xlet_some hf
    refine x_iinc C dX12_puts_57 60 rfl 2 rfl v57 ev57 rfl [(4, .int (v57)), (0, .ref (x0)), (1, .int (x1))] rfl ?_
    refine x_goto C dX12_puts_60 36 (by decide) ?_
    refine x_lv [1, 2, 0] (lv' := [(0, .ref (x0)), (1, .int (x1)), (4, .int (v57))]) rfl ?_
    exact hK _ (Option.some.inj hf).symm
noncomputable def fX12_puts (σ : St) (x0 : Nat) (x1 : Int32) (x2 : Int64) : Option (St) :=
(gR σ x0 11 1).bind fun v1 =>
(fX12_place x1 0).bind fun w6 =>
(sL σ v1 w6 x2).bind fun σ10 =>
(gR σ10 x0 11 1).bind fun v12 =>
(fX12_place x1 1).bind fun w17 =>
(sL σ10 v12 w17 x2).bind fun σ21 =>
(gR σ21 x0 11 1).bind fun v23 =>
(fX12_place x1 2).bind fun w28 =>
(sL σ21 v23 w28 0).bind fun σ32 =>
(iterP (fLX12_puts_36 x0 x1) (0, σ32)).bind fun b36 =>
some b36
set_option maxHeartbeats 4000000 in
set_option maxRecDepth 100000 in
theorem cX12_putsc {l : Launch} {G : xG} {A : Nat → Prop} {σ : St} {x0 : Nat} {x1 : Int32} {x2 : Int64} {c : St} (hf : fX12_puts σ x0 x1 x2 = some c) : Con l yX12_puts (xws yX12_puts cX12_puts 5 none) rmX12_puts [.ref (x0), .int (x1), .long (x2)] G A σ none c := by
  refine x_start rfl (Nat.le_of_ble_eq_true rfl) (fun X _ _ _ C hE0 => ?_)
  have hE : ∀ r, c = r → xE1 X none r := fun r e => e ▸ hE0
  show V X (0, 0) σ 0 [(0, .ref (x0)), (1, .int (x1)), (2, .long (x2))] []
  unfold fX12_puts at hf
  refine x_aload_n C dX12_puts_0 1 rfl 0 rfl rfl ?_
  obtain ⟨v1, hv1, hf⟩ := x_bind hf
  refine x_getR C dX12_puts_1 4 rfl hv1 cl11 rfl w1444 ?_
  refine x_iload_n C dX12_puts_4 5 rfl 1 rfl rfl ?_
  refine x_iconst C dX12_puts_5 6 rfl 0 (by decide) ?_
  obtain ⟨w6, hw6, hf⟩ := x_bind hf
  refine x_callSi C dX12_puts_6 9 rfl (cX12_placec hw6) kX12_place ksX12_place w1849 ⟨rfl, rfl⟩ ⟨Nat.le_of_ble_eq_true rfl, Nat.le_of_ble_eq_true rfl⟩ ⟨Nat.zero_le _, Nat.zero_le _⟩ rfl rfl (Nat.le_of_ble_eq_true rfl) ?_
  refine x_lload_n C dX12_puts_9 10 rfl 2 rfl rfl ?_
  obtain ⟨σ10, hσ10, hf⟩ := x_bind hf
  refine x_lastore C dX12_puts_10 11 rfl hσ10 ?_
  refine x_aload_n C dX12_puts_11 12 rfl 0 rfl rfl ?_
  obtain ⟨v12, hv12, hf⟩ := x_bind hf
  refine x_getR C dX12_puts_12 15 rfl hv12 cl11 rfl w1444 ?_
  refine x_iload_n C dX12_puts_15 16 rfl 1 rfl rfl ?_
  refine x_iconst C dX12_puts_16 17 rfl 1 (by decide) ?_
  obtain ⟨w17, hw17, hf⟩ := x_bind hf
  refine x_callSi C dX12_puts_17 20 rfl (cX12_placec hw17) kX12_place ksX12_place w1849 ⟨rfl, rfl⟩ ⟨Nat.le_of_ble_eq_true rfl, Nat.le_of_ble_eq_true rfl⟩ ⟨Nat.zero_le _, Nat.zero_le _⟩ rfl rfl (Nat.le_of_ble_eq_true rfl) ?_
  refine x_lload_n C dX12_puts_20 21 rfl 2 rfl rfl ?_
  obtain ⟨σ21, hσ21, hf⟩ := x_bind hf
  refine x_lastore C dX12_puts_21 22 rfl hσ21 ?_
  refine x_aload_n C dX12_puts_22 23 rfl 0 rfl rfl ?_
  obtain ⟨v23, hv23, hf⟩ := x_bind hf
  refine x_getR C dX12_puts_23 26 rfl hv23 cl11 rfl w1444 ?_
  refine x_iload_n C dX12_puts_26 27 rfl 1 rfl rfl ?_
  refine x_iconst C dX12_puts_27 28 rfl 2 (by decide) ?_
  obtain ⟨w28, hw28, hf⟩ := x_bind hf
  refine x_callSi C dX12_puts_28 31 rfl (cX12_placec hw28) kX12_place ksX12_place w1849 ⟨rfl, rfl⟩ ⟨Nat.le_of_ble_eq_true rfl, Nat.le_of_ble_eq_true rfl⟩ ⟨Nat.zero_le _, Nat.zero_le _⟩ rfl rfl (Nat.le_of_ble_eq_true rfl) ?_
  refine x_lconst C dX12_puts_31 32 rfl 0 (by decide) ?_
  obtain ⟨σ32, hσ32, hf⟩ := x_bind hf
  refine x_lastore C dX12_puts_32 33 rfl hσ32 ?_
  refine x_iconst C dX12_puts_33 34 rfl 0 (by decide) ?_
  refine x_istore C dX12_puts_34 36 rfl rfl [(4, .int (0)), (0, .ref (x0)), (1, .int (x1)), (2, .long (x2))] rfl ?_
  obtain ⟨b36, hb36, hf⟩ := x_bind hf
  refine x_lv [1, 2, 0] (lv' := [(0, .ref (x0)), (1, .int (x1)), (4, .int (0))]) rfl ?_
  refine lpX12_puts_36 C hb36 (fun s36 e36 => ?_)
  subst e36
  exact x_vret C (hE _ (Option.some.inj hf).symm) dX12_puts_63
theorem dX12_spelled_0 : decode cX12_spelled 0 = .ok (.lconst 0, 1) := by decide +kernel
theorem dX12_spelled_1 : decode cX12_spelled 1 = .ok (.lstore_n 3, 1) := by decide +kernel
theorem dX12_spelled_2 : decode cX12_spelled 2 = .ok (.iload_n 1, 1) := by decide +kernel
theorem dX12_spelled_3 : decode cX12_spelled 3 = .ok (.istore 5, 2) := by decide +kernel
theorem dX12_spelled_5 : decode cX12_spelled 5 = .ok (.iload 5, 2) := by decide +kernel
theorem dX12_spelled_7 : decode cX12_spelled 7 = .ok (.iload_n 2, 1) := by decide +kernel
theorem dX12_spelled_8 : decode cX12_spelled 8 = .ok (.if_icmp .ge 30, 3) := by decide +kernel
theorem dX12_spelled_11 : decode cX12_spelled 11 = .ok (.ldc2_w 134, 3) := by decide +kernel
theorem dX12_spelled_14 : decode cX12_spelled 14 = .ok (.lload_n 3, 1) := by decide +kernel
theorem dX12_spelled_15 : decode cX12_spelled 15 = .ok (.lmul, 1) := by decide +kernel
theorem dX12_spelled_16 : decode cX12_spelled 16 = .ok (.aload_n 0, 1) := by decide +kernel
theorem dX12_spelled_17 : decode cX12_spelled 17 = .ok (.getfield 23, 3) := by decide +kernel
theorem dX12_spelled_20 : decode cX12_spelled 20 = .ok (.iload 5, 2) := by decide +kernel
theorem dX12_spelled_22 : decode cX12_spelled 22 = .ok (.baload, 1) := by decide +kernel
theorem dX12_spelled_23 : decode cX12_spelled 23 = .ok (.i2l, 1) := by decide +kernel
theorem dX12_spelled_24 : decode cX12_spelled 24 = .ok (.ladd, 1) := by decide +kernel
theorem dX12_spelled_25 : decode cX12_spelled 25 = .ok (.ldc2_w 178, 3) := by decide +kernel
theorem dX12_spelled_28 : decode cX12_spelled 28 = .ok (.lsub, 1) := by decide +kernel
theorem dX12_spelled_29 : decode cX12_spelled 29 = .ok (.lconst 1, 1) := by decide +kernel
theorem dX12_spelled_30 : decode cX12_spelled 30 = .ok (.ladd, 1) := by decide +kernel
theorem dX12_spelled_31 : decode cX12_spelled 31 = .ok (.lstore_n 3, 1) := by decide +kernel
theorem dX12_spelled_32 : decode cX12_spelled 32 = .ok (.iinc 5 1, 3) := by decide +kernel
theorem dX12_spelled_35 : decode cX12_spelled 35 = .ok (.goto (-30), 3) := by decide +kernel
theorem dX12_spelled_38 : decode cX12_spelled 38 = .ok (.lload_n 3, 1) := by decide +kernel
theorem dX12_spelled_39 : decode cX12_spelled 39 = .ok (.lreturn, 1) := by decide +kernel
abbrev rmX12_spelled : Room := { frames := 0, cells := 0, slots := 0, locals := 0 }
noncomputable def fLX12_spelled_5 (σ : St) (x0 : Nat) (x2 : Int32) (a : Int64 × Int32) : Option ((Int64 × Int32) ⊕ (Int64)) :=
if x2 ≤ a.2 then
(some (Sum.inr a.1))
else
((gR σ x0 11 6).bind fun v17 =>
(aI σ v17 2 a.2).bind fun v22 =>
xlet ((((6 * a.1) + v22.toInt64) - 97) + 1) fun v31 =>
xlet (a.2 + 1) fun v32 =>
some (Sum.inl (v31, v32)))
set_option maxHeartbeats 4000000 in
set_option maxRecDepth 100000 in
theorem lpX12_spelled_5 {X : xX} {σ : St} {x0 : Nat} {x2 : Int32}  {a0 : Int64 × Int32} {b : Int64} (C : Ok X cX12_spelled 6 RX12 rmX12_spelled (some .long)) (hb : iterP (fLX12_spelled_5 σ x0 x2) a0 = some b) (hy0 : ∀ s, b = s → V X (0, 0) σ 38 [(3, .long (s))] []) : V X (0, 0) σ 5 [(0, .ref (x0)), (2, .int (x2)), (3, .long (a0.1)), (5, .int (a0.2))] [] := by
  obtain ⟨n, hn⟩ := iterP_some hb
  refine x_loop (P := fun a => V X (0, 0) σ 5 [(0, .ref (x0)), (2, .int (x2)), (3, .long (a.1)), (5, .int (a.2))] []) ?_ n a0 hn
  intro a c hf hK hxx
  have hx0 : ∀ s, c = Sum.inr s → V X (0, 0) σ 38 [(3, .long (s))] [] := fun s e => hy0 s (hxx _ e).symm
  unfold fLX12_spelled_5 at hf
  refine x_iload C dX12_spelled_5 7 rfl 3 rfl ?_
  refine x_iload_n C dX12_spelled_7 8 rfl 1 rfl rfl ?_
  refine x_icmp_ge C dX12_spelled_8 38 (by decide) 11 rfl (fun hc => ?_) (fun hc => ?_)
  · have hf := (if_pos hc).symm.trans hf
    refine x_lv [2] (lv' := [(3, .long (a.1))]) rfl ?_
    exact hx0 _ (Option.some.inj hf).symm
  · have hf := (if_neg hc).symm.trans hf
    refine x_ldc2 C dX12_spelled_11 14 rfl w1704 ?_
    refine x_lload_n C dX12_spelled_14 15 rfl 2 rfl rfl ?_
    refine x_lmul C dX12_spelled_15 16 rfl ?_
    refine x_aload_n C dX12_spelled_16 17 rfl 0 rfl rfl ?_
    obtain ⟨v17, hv17, hf⟩ := x_bind hf
    refine x_getR C dX12_spelled_17 20 rfl hv17 cl11 rfl w1449 ?_
    refine x_iload C dX12_spelled_20 22 rfl 3 rfl ?_
    obtain ⟨v22, hv22, hf⟩ := x_bind hf
    refine x_baload C dX12_spelled_22 23 rfl hv22 ?_
    refine x_i2l C dX12_spelled_23 24 rfl ?_
    refine x_ladd C dX12_spelled_24 25 rfl ?_
    refine x_ldc2 C dX12_spelled_25 28 rfl w1663 ?_
    refine x_lsub C dX12_spelled_28 29 rfl ?_
    refine x_lconst C dX12_spelled_29 30 rfl 1 (by decide) ?_
    refine x_ladd C dX12_spelled_30 31 rfl ?_
    obtain ⟨v31, ev31, hf⟩ := xlet_some hf
    refine x_topl ev31 ?_
    refine x_lstore_n C dX12_spelled_31 32 rfl rfl rfl [(3, .long (v31)), (0, .ref (x0)), (2, .int (x2)), (5, .int (a.2))] rfl ?_
    obtain ⟨v32, ev32, hf⟩ := xlet_some hf
    refine x_iinc C dX12_spelled_32 35 rfl 3 rfl v32 ev32 rfl [(5, .int (v32)), (3, .long (v31)), (0, .ref (x0)), (2, .int (x2))] rfl ?_
    refine x_goto C dX12_spelled_35 5 (by decide) ?_
    refine x_lv [2, 3, 1, 0] (lv' := [(0, .ref (x0)), (2, .int (x2)), (3, .long (v31)), (5, .int (v32))]) rfl ?_
    exact hK _ (Option.some.inj hf).symm
noncomputable def fX12_spelled (σ : St) (x0 : Nat) (x1 : Int32) (x2 : Int32) : Option (Int64) :=
(iterP (fLX12_spelled_5 σ x0 x2) (0, x1)).bind fun b5 =>
some b5
set_option maxHeartbeats 4000000 in
set_option maxRecDepth 100000 in
theorem cX12_spelledc {l : Launch} {G : xG} {A : Nat → Prop} {σ : St} {x0 : Nat} {x1 : Int32} {x2 : Int32} {c : Int64} (hf : fX12_spelled σ x0 x1 x2 = some c) : Con l yX12_spelled (xws yX12_spelled cX12_spelled 6 (some .long)) rmX12_spelled [.ref (x0), .int (x1), .int (x2)] G A σ (some (.long c)) σ := by
  refine x_start rfl (Nat.le_of_ble_eq_true rfl) (fun X _ _ _ C hE0 => ?_)
  have hE : ∀ r, c = r → xE1 X (some (.long r)) σ := fun r e => e ▸ hE0
  show V X (0, 0) σ 0 [(0, .ref (x0)), (1, .int (x1)), (2, .int (x2))] []
  unfold fX12_spelled at hf
  refine x_lconst C dX12_spelled_0 1 rfl 0 (by decide) ?_
  refine x_lstore_n C dX12_spelled_1 2 rfl rfl rfl [(3, .long (0)), (0, .ref (x0)), (1, .int (x1)), (2, .int (x2))] rfl ?_
  refine x_iload_n C dX12_spelled_2 3 rfl 2 rfl rfl ?_
  refine x_istore C dX12_spelled_3 5 rfl rfl [(5, .int (x1)), (3, .long (0)), (0, .ref (x0)), (1, .int (x1)), (2, .int (x2))] rfl ?_
  obtain ⟨b5, hb5, hf⟩ := x_bind hf
  refine x_lv [2, 4, 1, 0] (lv' := [(0, .ref (x0)), (2, .int (x2)), (3, .long (0)), (5, .int (x1))]) rfl ?_
  refine lpX12_spelled_5 C hb5 (fun s5 e5 => ?_)
  subst e5
  refine x_lload_n C dX12_spelled_38 39 rfl 0 rfl rfl ?_
  exact x_lret C (hE _ (Option.some.inj hf).symm) dX12_spelled_39
theorem dX12_side_0 : decode cX12_side 0 = .ok (.aload_n 0, 1) := by decide +kernel
theorem dX12_side_1 : decode cX12_side 1 = .ok (.invokevirtual 212, 3) := by decide +kernel
theorem dX12_side_4 : decode cX12_side 4 = .ok (.ifCond .eq 80, 3) := by decide +kernel
theorem dX12_side_7 : decode cX12_side 7 = .ok (.aload_n 0, 1) := by decide +kernel
theorem dX12_side_8 : decode cX12_side 8 = .ok (.aload_n 0, 1) := by decide +kernel
theorem dX12_side_9 : decode cX12_side 9 = .ok (.getfield 195, 3) := by decide +kernel
theorem dX12_side_12 : decode cX12_side 12 = .ok (.sipush 1000, 3) := by decide +kernel
theorem dX12_side_15 : decode cX12_side 15 = .ok (.if_icmp .ne 7, 3) := by decide +kernel
theorem dX12_side_18 : decode cX12_side 18 = .ok (.iconst 1, 1) := by decide +kernel
theorem dX12_side_19 : decode cX12_side 19 = .ok (.goto 4, 3) := by decide +kernel
theorem dX12_side_22 : decode cX12_side 22 = .ok (.iconst 0, 1) := by decide +kernel
theorem dX12_side_23 : decode cX12_side 23 = .ok (.iconst 1, 1) := by decide +kernel
theorem dX12_side_24 : decode cX12_side 24 = .ok (.invokevirtual 225, 3) := by decide +kernel
theorem dX12_side_27 : decode cX12_side 27 = .ok (.ifCond .eq 57, 3) := by decide +kernel
theorem dX12_side_30 : decode cX12_side 30 = .ok (.aload_n 0, 1) := by decide +kernel
theorem dX12_side_31 : decode cX12_side 31 = .ok (.aload_n 0, 1) := by decide +kernel
theorem dX12_side_32 : decode cX12_side 32 = .ok (.getfield 186, 3) := by decide +kernel
theorem dX12_side_35 : decode cX12_side 35 = .ok (.aload_n 0, 1) := by decide +kernel
theorem dX12_side_36 : decode cX12_side 36 = .ok (.getfield 192, 3) := by decide +kernel
theorem dX12_side_39 : decode cX12_side 39 = .ok (.isub, 1) := by decide +kernel
theorem dX12_side_40 : decode cX12_side 40 = .ok (.i2l, 1) := by decide +kernel
theorem dX12_side_41 : decode cX12_side 41 = .ok (.iload_n 1, 1) := by decide +kernel
theorem dX12_side_42 : decode cX12_side 42 = .ok (.i2l, 1) := by decide +kernel
theorem dX12_side_43 : decode cX12_side 43 = .ok (.iload_n 2, 1) := by decide +kernel
theorem dX12_side_44 : decode cX12_side 44 = .ok (.i2l, 1) := by decide +kernel
theorem dX12_side_45 : decode cX12_side 45 = .ok (.invokestatic 130, 3) := by decide +kernel
theorem dX12_side_48 : decode cX12_side 48 = .ok (.ifCond .eq 28, 3) := by decide +kernel
theorem dX12_side_51 : decode cX12_side 51 = .ok (.aload_n 0, 1) := by decide +kernel
theorem dX12_side_52 : decode cX12_side 52 = .ok (.aload_n 0, 1) := by decide +kernel
theorem dX12_side_53 : decode cX12_side 53 = .ok (.getfield 192, 3) := by decide +kernel
theorem dX12_side_56 : decode cX12_side 56 = .ok (.aload_n 0, 1) := by decide +kernel
theorem dX12_side_57 : decode cX12_side 57 = .ok (.getfield 186, 3) := by decide +kernel
theorem dX12_side_60 : decode cX12_side 60 = .ok (.aload_n 0, 1) := by decide +kernel
theorem dX12_side_61 : decode cX12_side 61 = .ok (.getfield 30, 3) := by decide +kernel
theorem dX12_side_64 : decode cX12_side 64 = .ok (.iconst 0, 1) := by decide +kernel
theorem dX12_side_65 : decode cX12_side 65 = .ok (.laload, 1) := by decide +kernel
theorem dX12_side_66 : decode cX12_side 66 = .ok (.invokevirtual 232, 3) := by decide +kernel
theorem dX12_side_69 : decode cX12_side 69 = .ok (.ifCond .eq 7, 3) := by decide +kernel
theorem dX12_side_72 : decode cX12_side 72 = .ok (.iconst 1, 1) := by decide +kernel
theorem dX12_side_73 : decode cX12_side 73 = .ok (.goto 4, 3) := by decide +kernel
theorem dX12_side_76 : decode cX12_side 76 = .ok (.iconst 0, 1) := by decide +kernel
theorem dX12_side_77 : decode cX12_side 77 = .ok (.iconst 2, 1) := by decide +kernel
theorem dX12_side_78 : decode cX12_side 78 = .ok (.invokevirtual 225, 3) := by decide +kernel
theorem dX12_side_81 : decode cX12_side 81 = .ok (.ifCond .ne 5, 3) := by decide +kernel
theorem dX12_side_84 : decode cX12_side 84 = .ok (.lconst 0, 1) := by decide +kernel
theorem dX12_side_85 : decode cX12_side 85 = .ok (.lreturn, 1) := by decide +kernel
theorem dX12_side_86 : decode cX12_side 86 = .ok (.aload_n 0, 1) := by decide +kernel
theorem dX12_side_87 : decode cX12_side 87 = .ok (.aload_n 0, 1) := by decide +kernel
theorem dX12_side_88 : decode cX12_side 88 = .ok (.getfield 192, 3) := by decide +kernel
theorem dX12_side_91 : decode cX12_side 91 = .ok (.aload_n 0, 1) := by decide +kernel
theorem dX12_side_92 : decode cX12_side 92 = .ok (.getfield 186, 3) := by decide +kernel
theorem dX12_side_95 : decode cX12_side 95 = .ok (.invokevirtual 236, 3) := by decide +kernel
theorem dX12_side_98 : decode cX12_side 98 = .ok (.lreturn, 1) := by decide +kernel
abbrev rmX12_side : Room := { frames := 2, cells := 0, slots := 0, locals := 50 }
noncomputable def fJX12_side_m_77 (σ : St) (x0 : Nat) (t0 : Int32) (t1 : Nat) : Option ((Int64 × St)) :=
(isO σ t1 11).bind fun _ =>
(fX12_check σ t1 t0 2).bind fun w78 =>
if w78.1 = 0 then
(some (0, w78.2))
else
((gI w78.2 x0 11 10).bind fun v88 =>
(gI w78.2 x0 11 9).bind fun v92 =>
(isO w78.2 x0 11).bind fun _ =>
(fX12_spelled w78.2 x0 v88 v92).bind fun w95 =>
some (w95, w78.2))
set_option maxHeartbeats 4000000 in
set_option maxRecDepth 100000 in
theorem jnX12_side_m_77 {X : xX} {σ : St} {x0 : Nat} {t0 : Int32} {t1 : Nat}  {c : (Int64 × St)} (C : Ok X cX12_side 3 RX12 rmX12_side (some .long)) (hf : fJX12_side_m_77 σ x0 t0 t1 = some c) (hE : ∀ r, c = r → xE1 X (some (.long r.1)) r.2) : V X (0, 0) σ 77 [(0, .ref (x0))] [.int (t0), .ref (t1)] := by
  unfold fJX12_side_m_77 at hf
  refine x_iconst C dX12_side_77 78 rfl 2 (by decide) ?_
  obtain ⟨o78, ho78, hf⟩ := x_bind hf
  obtain ⟨w78, hw78, hf⟩ := x_bind hf
  refine x_callVi C dX12_side_78 81 rfl ho78 cl11.1 rfl (cX12_checkc hw78) kX12_check kvX12_check w1679 ⟨rfl, rfl⟩ ⟨Nat.le_of_ble_eq_true rfl, Nat.le_of_ble_eq_true rfl⟩ ⟨Nat.zero_le _, Nat.zero_le _⟩ rfl rfl (Nat.le_of_ble_eq_true rfl) ?_
  refine x_if_ne C dX12_side_81 86 (by decide) 84 rfl (fun hc => ?_) (fun hc => ?_)
  · have hf := (if_neg hc).symm.trans hf
    refine x_aload_n C dX12_side_86 87 rfl 0 rfl rfl ?_
    refine x_aload_n C dX12_side_87 88 rfl 0 rfl rfl ?_
    obtain ⟨v88, hv88, hf⟩ := x_bind hf
    refine x_getI C dX12_side_88 91 rfl hv88 cl11 rfl w1453 ?_
    refine x_aload_n C dX12_side_91 92 rfl 0 rfl rfl ?_
    obtain ⟨v92, hv92, hf⟩ := x_bind hf
    refine x_getI C dX12_side_92 95 rfl hv92 cl11 rfl w1452 ?_
    obtain ⟨o95, ho95, hf⟩ := x_bind hf
    obtain ⟨w95, hw95, hf⟩ := x_bind hf
    refine x_callVl C dX12_side_95 98 rfl ho95 cl11.1 rfl (cX12_spelledc hw95) kX12_spelled kvX12_spelled w1713 ⟨rfl, rfl⟩ ⟨Nat.le_of_ble_eq_true rfl, Nat.le_of_ble_eq_true rfl⟩ ⟨Nat.zero_le _, Nat.zero_le _⟩ rfl rfl (Nat.le_of_ble_eq_true rfl) ?_
    exact x_lret C (hE _ (Option.some.inj hf).symm) dX12_side_98
  · have hf := (if_pos hc).symm.trans hf
    refine x_lconst C dX12_side_84 85 rfl 0 (by decide) ?_
    exact x_lret C (hE _ (Option.some.inj hf).symm) dX12_side_85
noncomputable def fJX12_side_m_76 (σ : St) (x0 : Nat) (t0 : Nat) : Option ((Int64 × St)) :=
fJX12_side_m_77 σ x0 0 t0
set_option maxHeartbeats 4000000 in
set_option maxRecDepth 100000 in
theorem jnX12_side_m_76 {X : xX} {σ : St} {x0 : Nat} {t0 : Nat}  {c : (Int64 × St)} (C : Ok X cX12_side 3 RX12 rmX12_side (some .long)) (hf : fJX12_side_m_76 σ x0 t0 = some c) (hE : ∀ r, c = r → xE1 X (some (.long r.1)) r.2) : V X (0, 0) σ 76 [(0, .ref (x0))] [.ref (t0)] := by
  unfold fJX12_side_m_76 at hf
  refine x_iconst C dX12_side_76 77 rfl 0 (by decide) ?_
  exact jnX12_side_m_77 C hf hE
noncomputable def fJX12_side_m_23 (σ : St) (x0 : Nat) (x1 : Int32) (x2 : Int32) (t0 : Int32) (t1 : Nat) : Option ((Int64 × St)) :=
(isO σ t1 11).bind fun _ =>
(fX12_check σ t1 t0 1).bind fun w24 =>
if w24.1 = 0 then
(some (0, w24.2))
else
((gI w24.2 x0 11 9).bind fun v32 =>
(gI w24.2 x0 11 10).bind fun v36 =>
(fX12_isIn ((v32 - v36).toInt64) x1.toInt64 x2.toInt64).bind fun w45 =>
if w45 = 0 then
(fJX12_side_m_76 w24.2 x0 x0)
else
((gI w24.2 x0 11 10).bind fun v53 =>
(gI w24.2 x0 11 9).bind fun v57 =>
(gR w24.2 x0 11 15).bind fun v61 =>
(aL w24.2 v61 0).bind fun v65 =>
(isO w24.2 x0 11).bind fun _ =>
(fX12_areLetters w24.2 x0 v53 v57 v65).bind fun w66 =>
if w66 = 0 then
(fJX12_side_m_76 w24.2 x0 x0)
else
(fJX12_side_m_77 w24.2 x0 1 x0)))
set_option maxHeartbeats 4000000 in
set_option maxRecDepth 100000 in
theorem jnX12_side_m_23 {X : xX} {σ : St} {x0 : Nat} {x1 : Int32} {x2 : Int32} {t0 : Int32} {t1 : Nat}  {c : (Int64 × St)} (C : Ok X cX12_side 3 RX12 rmX12_side (some .long)) (hf : fJX12_side_m_23 σ x0 x1 x2 t0 t1 = some c) (hE : ∀ r, c = r → xE1 X (some (.long r.1)) r.2) : V X (0, 0) σ 23 [(0, .ref (x0)), (1, .int (x1)), (2, .int (x2))] [.int (t0), .ref (t1)] := by
  unfold fJX12_side_m_23 at hf
  refine x_iconst C dX12_side_23 24 rfl 1 (by decide) ?_
  obtain ⟨o24, ho24, hf⟩ := x_bind hf
  obtain ⟨w24, hw24, hf⟩ := x_bind hf
  refine x_callVi C dX12_side_24 27 rfl ho24 cl11.1 rfl (cX12_checkc hw24) kX12_check kvX12_check w1679 ⟨rfl, rfl⟩ ⟨Nat.le_of_ble_eq_true rfl, Nat.le_of_ble_eq_true rfl⟩ ⟨Nat.zero_le _, Nat.zero_le _⟩ rfl rfl (Nat.le_of_ble_eq_true rfl) ?_
  refine x_if_eq C dX12_side_27 84 (by decide) 30 rfl (fun hc => ?_) (fun hc => ?_)
  · have hf := (if_pos hc).symm.trans hf
    refine x_lconst C dX12_side_84 85 rfl 0 (by decide) ?_
    exact x_lret C (hE _ (Option.some.inj hf).symm) dX12_side_85
  · have hf := (if_neg hc).symm.trans hf
    refine x_aload_n C dX12_side_30 31 rfl 0 rfl rfl ?_
    refine x_aload_n C dX12_side_31 32 rfl 0 rfl rfl ?_
    obtain ⟨v32, hv32, hf⟩ := x_bind hf
    refine x_getI C dX12_side_32 35 rfl hv32 cl11 rfl w1452 ?_
    refine x_aload_n C dX12_side_35 36 rfl 0 rfl rfl ?_
    obtain ⟨v36, hv36, hf⟩ := x_bind hf
    refine x_getI C dX12_side_36 39 rfl hv36 cl11 rfl w1453 ?_
    refine x_isub C dX12_side_39 40 rfl ?_
    refine x_i2l C dX12_side_40 41 rfl ?_
    refine x_iload_n C dX12_side_41 42 rfl 1 rfl rfl ?_
    refine x_i2l C dX12_side_42 43 rfl ?_
    refine x_iload_n C dX12_side_43 44 rfl 2 rfl rfl ?_
    refine x_i2l C dX12_side_44 45 rfl ?_
    obtain ⟨w45, hw45, hf⟩ := x_bind hf
    refine x_callSi C dX12_side_45 48 rfl (cX12_isInc hw45) kX12_isIn ksX12_isIn w1645 ⟨rfl, rfl⟩ ⟨Nat.le_of_ble_eq_true rfl, Nat.le_of_ble_eq_true rfl⟩ ⟨Nat.zero_le _, Nat.zero_le _⟩ rfl rfl (Nat.le_of_ble_eq_true rfl) ?_
    refine x_if_eq C dX12_side_48 76 (by decide) 51 rfl (fun hc => ?_) (fun hc => ?_)
    · have hf := (if_pos hc).symm.trans hf
      refine x_lv [0] (lv' := [(0, .ref (x0))]) rfl ?_
      exact jnX12_side_m_76 C hf hE
    · have hf := (if_neg hc).symm.trans hf
      refine x_aload_n C dX12_side_51 52 rfl 0 rfl rfl ?_
      refine x_aload_n C dX12_side_52 53 rfl 0 rfl rfl ?_
      obtain ⟨v53, hv53, hf⟩ := x_bind hf
      refine x_getI C dX12_side_53 56 rfl hv53 cl11 rfl w1453 ?_
      refine x_aload_n C dX12_side_56 57 rfl 0 rfl rfl ?_
      obtain ⟨v57, hv57, hf⟩ := x_bind hf
      refine x_getI C dX12_side_57 60 rfl hv57 cl11 rfl w1452 ?_
      refine x_aload_n C dX12_side_60 61 rfl 0 rfl rfl ?_
      obtain ⟨v61, hv61, hf⟩ := x_bind hf
      refine x_getR C dX12_side_61 64 rfl hv61 cl11 rfl w1458 ?_
      refine x_iconst C dX12_side_64 65 rfl 0 (by decide) ?_
      obtain ⟨v65, hv65, hf⟩ := x_bind hf
      refine x_laload C dX12_side_65 66 rfl hv65 ?_
      obtain ⟨o66, ho66, hf⟩ := x_bind hf
      obtain ⟨w66, hw66, hf⟩ := x_bind hf
      refine x_callVi C dX12_side_66 69 rfl ho66 cl11.1 rfl (cX12_areLettersc hw66) kX12_areLetters kvX12_areLetters w1709 ⟨rfl, rfl⟩ ⟨Nat.le_of_ble_eq_true rfl, Nat.le_of_ble_eq_true rfl⟩ ⟨Nat.zero_le _, Nat.zero_le _⟩ rfl rfl (Nat.le_of_ble_eq_true rfl) ?_
      refine x_if_eq C dX12_side_69 76 (by decide) 72 rfl (fun hc => ?_) (fun hc => ?_)
      · have hf := (if_pos hc).symm.trans hf
        refine x_lv [0] (lv' := [(0, .ref (x0))]) rfl ?_
        exact jnX12_side_m_76 C hf hE
      · have hf := (if_neg hc).symm.trans hf
        refine x_iconst C dX12_side_72 73 rfl 1 (by decide) ?_
        refine x_goto C dX12_side_73 77 (by decide) ?_
        refine x_lv [0] (lv' := [(0, .ref (x0))]) rfl ?_
        exact jnX12_side_m_77 C hf hE
noncomputable def fX12_side (σ : St) (x0 : Nat) (x1 : Int32) (x2 : Int32) : Option ((Int64 × St)) :=
(isO σ x0 11).bind fun _ =>
(fX12_fine σ x0).bind fun w1 =>
if w1 = 0 then
(some (0, σ))
else
((gI σ x0 11 11).bind fun v9 =>
if v9 = ((1000 : Int32)) then
(fJX12_side_m_23 σ x0 x1 x2 1 x0)
else
(fJX12_side_m_23 σ x0 x1 x2 0 x0))
set_option maxHeartbeats 4000000 in
set_option maxRecDepth 100000 in
theorem cX12_sidec {l : Launch} {G : xG} {A : Nat → Prop} {σ : St} {x0 : Nat} {x1 : Int32} {x2 : Int32} {c : (Int64 × St)} (hf : fX12_side σ x0 x1 x2 = some c) : Con l yX12_side (xws yX12_side cX12_side 3 (some .long)) rmX12_side [.ref (x0), .int (x1), .int (x2)] G A σ (some (.long c.1)) c.2 := by
  refine x_start rfl (Nat.le_of_ble_eq_true rfl) (fun X _ _ _ C hE0 => ?_)
  have hE : ∀ r, c = r → xE1 X (some (.long r.1)) r.2 := fun r e => e ▸ hE0
  show V X (0, 0) σ 0 [(0, .ref (x0)), (1, .int (x1)), (2, .int (x2))] []
  unfold fX12_side at hf
  refine x_aload_n C dX12_side_0 1 rfl 0 rfl rfl ?_
  obtain ⟨o1, ho1, hf⟩ := x_bind hf
  obtain ⟨w1, hw1, hf⟩ := x_bind hf
  refine x_callVi C dX12_side_1 4 rfl ho1 cl11.1 rfl (cX12_finec hw1) kX12_fine kvX12_fine w1683 ⟨rfl, rfl⟩ ⟨Nat.le_of_ble_eq_true rfl, Nat.le_of_ble_eq_true rfl⟩ ⟨Nat.zero_le _, Nat.zero_le _⟩ rfl rfl (Nat.le_of_ble_eq_true rfl) ?_
  refine x_if_eq C dX12_side_4 84 (by decide) 7 rfl (fun hc => ?_) (fun hc => ?_)
  · have hf := (if_pos hc).symm.trans hf
    refine x_lconst C dX12_side_84 85 rfl 0 (by decide) ?_
    exact x_lret C (hE _ (Option.some.inj hf).symm) dX12_side_85
  · have hf := (if_neg hc).symm.trans hf
    refine x_aload_n C dX12_side_7 8 rfl 0 rfl rfl ?_
    refine x_aload_n C dX12_side_8 9 rfl 0 rfl rfl ?_
    obtain ⟨v9, hv9, hf⟩ := x_bind hf
    refine x_getI C dX12_side_9 12 rfl hv9 cl11 rfl w1454 ?_
    refine x_sipush C dX12_side_12 15 rfl 1000 (by decide) ?_
    refine x_icmp_ne C dX12_side_15 22 (by decide) 18 rfl (fun hc => ?_) (fun hc => ?_)
    · have hf := (if_neg hc).symm.trans hf
      refine x_iconst C dX12_side_22 23 rfl 0 (by decide) ?_
      exact jnX12_side_m_23 C hf hE
    · have hf := (if_pos hc).symm.trans hf
      refine x_iconst C dX12_side_18 19 rfl 1 (by decide) ?_
      refine x_goto C dX12_side_19 23 (by decide) ?_
      exact jnX12_side_m_23 C hf hE
