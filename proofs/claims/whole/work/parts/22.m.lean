/-! methods: X12_go X12_isFigure X12_isSmall X12_goes X12_namesSide X12_laysHead X12_head -/
theorem dX12_go_0 : decode cX12_go 0 = .ok (.aload_n 0, 1) := by decide +kernel
theorem dX12_go_1 : decode cX12_go 1 = .ok (.iconst 0, 1) := by decide +kernel
theorem dX12_go_2 : decode cX12_go 2 = .ok (.putfield 1, 3) := by decide +kernel
theorem dX12_go_5 : decode cX12_go 5 = .ok (.aload_n 0, 1) := by decide +kernel
theorem dX12_go_6 : decode cX12_go 6 = .ok (.iload_n 1, 1) := by decide +kernel
theorem dX12_go_7 : decode cX12_go 7 = .ok (.invokestatic 452, 3) := by decide +kernel
theorem dX12_go_10 : decode cX12_go 10 = .ok (.iconst 1, 1) := by decide +kernel
theorem dX12_go_11 : decode cX12_go 11 = .ok (.invokevirtual 265, 3) := by decide +kernel
theorem dX12_go_14 : decode cX12_go 14 = .ok (.ifCond .eq 15, 3) := by decide +kernel
theorem dX12_go_17 : decode cX12_go 17 = .ok (.aload_n 0, 1) := by decide +kernel
theorem dX12_go_18 : decode cX12_go 18 = .ok (.iload_n 2, 1) := by decide +kernel
theorem dX12_go_19 : decode cX12_go 19 = .ok (.invokestatic 486, 3) := by decide +kernel
theorem dX12_go_22 : decode cX12_go 22 = .ok (.iconst 2, 1) := by decide +kernel
theorem dX12_go_23 : decode cX12_go 23 = .ok (.invokevirtual 265, 3) := by decide +kernel
theorem dX12_go_26 : decode cX12_go 26 = .ok (.ifCond .ne 5, 3) := by decide +kernel
theorem dX12_go_29 : decode cX12_go 29 = .ok (.iconst 0, 1) := by decide +kernel
theorem dX12_go_30 : decode cX12_go 30 = .ok (.ireturn, 1) := by decide +kernel
theorem dX12_go_31 : decode cX12_go 31 = .ok (.aload_n 0, 1) := by decide +kernel
theorem dX12_go_32 : decode cX12_go 32 = .ok (.aload_n 0, 1) := by decide +kernel
theorem dX12_go_33 : decode cX12_go 33 = .ok (.iload_n 1, 1) := by decide +kernel
theorem dX12_go_34 : decode cX12_go 34 = .ok (.invokevirtual 402, 3) := by decide +kernel
theorem dX12_go_37 : decode cX12_go 37 = .ok (.iload_n 2, 1) := by decide +kernel
theorem dX12_go_38 : decode cX12_go 38 = .ok (.invokevirtual 363, 3) := by decide +kernel
theorem dX12_go_41 : decode cX12_go 41 = .ok (.lstore_n 3, 1) := by decide +kernel
theorem dX12_go_42 : decode cX12_go 42 = .ok (.aload_n 0, 1) := by decide +kernel
theorem dX12_go_43 : decode cX12_go 43 = .ok (.iload_n 1, 1) := by decide +kernel
theorem dX12_go_44 : decode cX12_go 44 = .ok (.invokevirtual 471, 3) := by decide +kernel
theorem dX12_go_47 : decode cX12_go 47 = .ok (.aload_n 0, 1) := by decide +kernel
theorem dX12_go_48 : decode cX12_go 48 = .ok (.getfield 316, 3) := by decide +kernel
theorem dX12_go_51 : decode cX12_go 51 = .ok (.iadd, 1) := by decide +kernel
theorem dX12_go_52 : decode cX12_go 52 = .ok (.bipush 40, 2) := by decide +kernel
theorem dX12_go_54 : decode cX12_go 54 = .ok (.if_icmp .le 5, 3) := by decide +kernel
theorem dX12_go_57 : decode cX12_go 57 = .ok (.iconst (-1), 1) := by decide +kernel
theorem dX12_go_58 : decode cX12_go 58 = .ok (.ireturn, 1) := by decide +kernel
theorem dX12_go_59 : decode cX12_go 59 = .ok (.aload_n 0, 1) := by decide +kernel
theorem dX12_go_60 : decode cX12_go 60 = .ok (.invokevirtual 384, 3) := by decide +kernel
theorem dX12_go_63 : decode cX12_go 63 = .ok (.iconst 0, 1) := by decide +kernel
theorem dX12_go_64 : decode cX12_go 64 = .ok (.istore 5, 2) := by decide +kernel
theorem dX12_go_66 : decode cX12_go 66 = .ok (.iload 5, 2) := by decide +kernel
theorem dX12_go_68 : decode cX12_go 68 = .ok (.aload_n 0, 1) := by decide +kernel
theorem dX12_go_69 : decode cX12_go 69 = .ok (.getfield 316, 3) := by decide +kernel
theorem dX12_go_72 : decode cX12_go 72 = .ok (.if_icmp .ge 52, 3) := by decide +kernel
theorem dX12_go_75 : decode cX12_go 75 = .ok (.aload_n 0, 1) := by decide +kernel
theorem dX12_go_76 : decode cX12_go 76 = .ok (.iload_n 1, 1) := by decide +kernel
theorem dX12_go_77 : decode cX12_go 77 = .ok (.aload_n 0, 1) := by decide +kernel
theorem dX12_go_78 : decode cX12_go 78 = .ok (.getfield 36, 3) := by decide +kernel
theorem dX12_go_81 : decode cX12_go 81 = .ok (.iload 5, 2) := by decide +kernel
theorem dX12_go_83 : decode cX12_go 83 = .ok (.iaload, 1) := by decide +kernel
theorem dX12_go_84 : decode cX12_go 84 = .ok (.aload_n 0, 1) := by decide +kernel
theorem dX12_go_85 : decode cX12_go 85 = .ok (.getfield 40, 3) := by decide +kernel
theorem dX12_go_88 : decode cX12_go 88 = .ok (.iload 5, 2) := by decide +kernel
theorem dX12_go_90 : decode cX12_go 90 = .ok (.iaload, 1) := by decide +kernel
theorem dX12_go_91 : decode cX12_go 91 = .ok (.iload 5, 2) := by decide +kernel
theorem dX12_go_93 : decode cX12_go 93 = .ok (.iconst 1, 1) := by decide +kernel
theorem dX12_go_94 : decode cX12_go 94 = .ok (.iadd, 1) := by decide +kernel
theorem dX12_go_95 : decode cX12_go 95 = .ok (.aload_n 0, 1) := by decide +kernel
theorem dX12_go_96 : decode cX12_go 96 = .ok (.getfield 316, 3) := by decide +kernel
theorem dX12_go_99 : decode cX12_go 99 = .ok (.if_icmp .ne 7, 3) := by decide +kernel
theorem dX12_go_102 : decode cX12_go 102 = .ok (.lload_n 3, 1) := by decide +kernel
theorem dX12_go_103 : decode cX12_go 103 = .ok (.goto 12, 3) := by decide +kernel
theorem dX12_go_106 : decode cX12_go 106 = .ok (.aload_n 0, 1) := by decide +kernel
theorem dX12_go_107 : decode cX12_go 107 = .ok (.getfield 33, 3) := by decide +kernel
theorem dX12_go_110 : decode cX12_go 110 = .ok (.iload 5, 2) := by decide +kernel
theorem dX12_go_112 : decode cX12_go 112 = .ok (.iconst 1, 1) := by decide +kernel
theorem dX12_go_113 : decode cX12_go 113 = .ok (.iadd, 1) := by decide +kernel
theorem dX12_go_114 : decode cX12_go 114 = .ok (.laload, 1) := by decide +kernel
theorem dX12_go_115 : decode cX12_go 115 = .ok (.invokevirtual 482, 3) := by decide +kernel
theorem dX12_go_118 : decode cX12_go 118 = .ok (.iinc 5 1, 3) := by decide +kernel
theorem dX12_go_121 : decode cX12_go 121 = .ok (.goto (-55), 3) := by decide +kernel
theorem dX12_go_124 : decode cX12_go 124 = .ok (.aload_n 0, 1) := by decide +kernel
theorem dX12_go_125 : decode cX12_go 125 = .ok (.getfield 316, 3) := by decide +kernel
theorem dX12_go_128 : decode cX12_go 128 = .ok (.ireturn, 1) := by decide +kernel
abbrev rmX12_go : Room := { frames := 8, cells := 0, slots := 0, locals := 204 }
noncomputable def fLX12_go_66 (x0 : Nat) (x1 : Int32) (x3 : Int64) (a : Int32 × St) : Option ((Int32 × St) ⊕ (St)) :=
(gI a.2 x0 11 23).bind fun v69 =>
if v69 ≤ a.1 then
(some (Sum.inr a.2))
else
((gR a.2 x0 11 21).bind fun v78 =>
(aI a.2 v78 0 a.1).bind fun v83 =>
(gR a.2 x0 11 22).bind fun v85 =>
(aI a.2 v85 0 a.1).bind fun v90 =>
(gI a.2 x0 11 23).bind fun v96 =>
if (a.1 + 1) = v96 then
((isO a.2 x0 11).bind fun _ =>
(fX12_makes a.2 x0 x1 v83 v90 x3).bind fun w115 =>
xlet (a.1 + 1) fun v118 =>
some (Sum.inl (v118, w115)))
else
((gR a.2 x0 11 20).bind fun v107 =>
(aL a.2 v107 (a.1 + 1)).bind fun v114 =>
(isO a.2 x0 11).bind fun _ =>
(fX12_makes a.2 x0 x1 v83 v90 v114).bind fun w115 =>
xlet (a.1 + 1) fun v118 =>
some (Sum.inl (v118, w115))))
set_option maxHeartbeats 4000000 in
set_option maxRecDepth 100000 in
theorem lpX12_go_66 {X : xX} {x0 : Nat} {x1 : Int32} {x3 : Int64}  {a0 : Int32 × St} {b : St} (C : Ok X cX12_go 6 RX12 rmX12_go (some .int)) (hb : iterP (fLX12_go_66 x0 x1 x3) a0 = some b) (hy0 : ∀ s, b = s → V X (0, 0) s 124 [(0, .ref (x0))] []) : V X (0, 0) a0.2 66 [(0, .ref (x0)), (1, .int (x1)), (3, .long (x3)), (5, .int (a0.1))] [] := by
  obtain ⟨n, hn⟩ := iterP_some hb
  refine x_loop (P := fun a => V X (0, 0) a.2 66 [(0, .ref (x0)), (1, .int (x1)), (3, .long (x3)), (5, .int (a.1))] []) ?_ n a0 hn
  intro a c hf hK hxx
  have hx0 : ∀ s, c = Sum.inr s → V X (0, 0) s 124 [(0, .ref (x0))] [] := fun s e => hy0 s (hxx _ e).symm
  unfold fLX12_go_66 at hf
  refine x_iload C dX12_go_66 68 rfl 3 rfl ?_
  refine x_aload_n C dX12_go_68 69 rfl 0 rfl rfl ?_
  obtain ⟨v69, hv69, hf⟩ := x_bind hf
  refine x_getI C dX12_go_69 72 rfl hv69 cl11 rfl w1466 ?_
  refine x_icmp_ge C dX12_go_72 124 (by decide) 75 rfl (fun hc => ?_) (fun hc => ?_)
  · have hf := (if_pos hc).symm.trans hf
    refine x_lv [0] (lv' := [(0, .ref (x0))]) rfl ?_
    exact hx0 _ (Option.some.inj hf).symm
  · have hf := (if_neg hc).symm.trans hf
    refine x_aload_n C dX12_go_75 76 rfl 0 rfl rfl ?_
    refine x_iload_n C dX12_go_76 77 rfl 1 rfl rfl ?_
    refine x_aload_n C dX12_go_77 78 rfl 0 rfl rfl ?_
    obtain ⟨v78, hv78, hf⟩ := x_bind hf
    refine x_getR C dX12_go_78 81 rfl hv78 cl11 rfl w1464 ?_
    refine x_iload C dX12_go_81 83 rfl 3 rfl ?_
    obtain ⟨v83, hv83, hf⟩ := x_bind hf
    refine x_iaload C dX12_go_83 84 rfl hv83 ?_
    refine x_aload_n C dX12_go_84 85 rfl 0 rfl rfl ?_
    obtain ⟨v85, hv85, hf⟩ := x_bind hf
    refine x_getR C dX12_go_85 88 rfl hv85 cl11 rfl w1465 ?_
    refine x_iload C dX12_go_88 90 rfl 3 rfl ?_
    obtain ⟨v90, hv90, hf⟩ := x_bind hf
    refine x_iaload C dX12_go_90 91 rfl hv90 ?_
    refine x_iload C dX12_go_91 93 rfl 3 rfl ?_
    refine x_iconst C dX12_go_93 94 rfl 1 (by decide) ?_
    refine x_iadd C dX12_go_94 95 rfl ?_
    refine x_aload_n C dX12_go_95 96 rfl 0 rfl rfl ?_
    obtain ⟨v96, hv96, hf⟩ := x_bind hf
    refine x_getI C dX12_go_96 99 rfl hv96 cl11 rfl w1466 ?_
    refine x_icmp_ne C dX12_go_99 106 (by decide) 102 rfl (fun hc => ?_) (fun hc => ?_)
    · have hf := (if_neg hc).symm.trans hf
      refine x_aload_n C dX12_go_106 107 rfl 0 rfl rfl ?_
      obtain ⟨v107, hv107, hf⟩ := x_bind hf
      refine x_getR C dX12_go_107 110 rfl hv107 cl11 rfl w1463 ?_
      refine x_iload C dX12_go_110 112 rfl 3 rfl ?_
      refine x_iconst C dX12_go_112 113 rfl 1 (by decide) ?_
      refine x_iadd C dX12_go_113 114 rfl ?_
      obtain ⟨v114, hv114, hf⟩ := x_bind hf
      refine x_laload C dX12_go_114 115 rfl hv114 ?_
      obtain ⟨o115, ho115, hf⟩ := x_bind hf
      obtain ⟨w115, hw115, hf⟩ := x_bind hf
      refine x_callVv C dX12_go_115 118 rfl ho115 cl11.1 rfl (cX12_makesc hw115) kX12_makes kvX12_makes w2038 ⟨rfl, rfl⟩ ⟨Nat.le_of_ble_eq_true rfl, Nat.le_of_ble_eq_true rfl⟩ ⟨Nat.zero_le _, Nat.zero_le _⟩ rfl rfl (Nat.le_of_ble_eq_true rfl) ?_
      obtain ⟨v118, ev118, hf⟩ := xlet_some hf
      refine x_iinc C dX12_go_118 121 rfl 3 rfl v118 ev118 rfl [(5, .int (v118)), (0, .ref (x0)), (1, .int (x1)), (3, .long (x3))] rfl ?_
      refine x_goto C dX12_go_121 66 (by decide) ?_
      refine x_lv [1, 2, 3, 0] (lv' := [(0, .ref (x0)), (1, .int (x1)), (3, .long (x3)), (5, .int (v118))]) rfl ?_
      exact hK _ (Option.some.inj hf).symm
    · have hf := (if_pos hc).symm.trans hf
      refine x_lload_n C dX12_go_102 103 rfl 2 rfl rfl ?_
      refine x_goto C dX12_go_103 115 (by decide) ?_
      obtain ⟨o115, ho115, hf⟩ := x_bind hf
      obtain ⟨w115, hw115, hf⟩ := x_bind hf
      refine x_callVv C dX12_go_115 118 rfl ho115 cl11.1 rfl (cX12_makesc hw115) kX12_makes kvX12_makes w2038 ⟨rfl, rfl⟩ ⟨Nat.le_of_ble_eq_true rfl, Nat.le_of_ble_eq_true rfl⟩ ⟨Nat.zero_le _, Nat.zero_le _⟩ rfl rfl (Nat.le_of_ble_eq_true rfl) ?_
      obtain ⟨v118, ev118, hf⟩ := xlet_some hf
      refine x_iinc C dX12_go_118 121 rfl 3 rfl v118 ev118 rfl [(5, .int (v118)), (0, .ref (x0)), (1, .int (x1)), (3, .long (x3))] rfl ?_
      refine x_goto C dX12_go_121 66 (by decide) ?_
      refine x_lv [1, 2, 3, 0] (lv' := [(0, .ref (x0)), (1, .int (x1)), (3, .long (x3)), (5, .int (v118))]) rfl ?_
      exact hK _ (Option.some.inj hf).symm
noncomputable def fX12_go (σ : St) (x0 : Nat) (x1 : Int32) (x2 : Int32) : Option ((Int32 × St)) :=
(wrF σ x0 11 0 (.int (0))).bind fun σ2 =>
(fX12_isPlace x1).bind fun w7 =>
(isO σ2 x0 11).bind fun _ =>
(fX12_right σ2 x0 w7 1).bind fun w11 =>
if w11.1 = 0 then
(some (0, w11.2))
else
((fX12_isWay x2).bind fun w19 =>
(isO w11.2 x0 11).bind fun _ =>
(fX12_right w11.2 x0 w19 2).bind fun w23 =>
if w23.1 = 0 then
(some (0, w23.2))
else
((isO w23.2 x0 11).bind fun _ =>
(fX12_wordAt w23.2 x0 x1).bind fun w34 =>
(isO w23.2 x0 11).bind fun _ =>
(fX12_runs w23.2 x0 w34 x2).bind fun w38 =>
(isO w38.2 x0 11).bind fun _ =>
(fX12_stepsOf w38.2 x0 x1).bind fun w44 =>
(gI w38.2 x0 11 23).bind fun v48 =>
if (w44 + v48) ≤ ((40 : Int32)) then
((isO w38.2 x0 11).bind fun _ =>
(fX12_keeps w38.2 x0).bind fun w60 =>
(iterP (fLX12_go_66 x0 x1 w38.1) (0, w60)).bind fun b66 =>
(gI b66 x0 11 23).bind fun v125 =>
some (v125, b66))
else
(some ((-1), w38.2))))
set_option maxHeartbeats 4000000 in
set_option maxRecDepth 100000 in
theorem cX12_goc {l : Launch} {G : xG} {A : Nat → Prop} {σ : St} {x0 : Nat} {x1 : Int32} {x2 : Int32} {c : (Int32 × St)} (hf : fX12_go σ x0 x1 x2 = some c) : Con l yX12_go (xws yX12_go cX12_go 6 (some .int)) rmX12_go [.ref (x0), .int (x1), .int (x2)] G A σ (some (.int c.1)) c.2 := by
  refine x_start rfl (Nat.le_of_ble_eq_true rfl) (fun X _ _ _ C hE0 => ?_)
  have hE : ∀ r, c = r → xE1 X (some (.int r.1)) r.2 := fun r e => e ▸ hE0
  show V X (0, 0) σ 0 [(0, .ref (x0)), (1, .int (x1)), (2, .int (x2))] []
  unfold fX12_go at hf
  refine x_aload_n C dX12_go_0 1 rfl 0 rfl rfl ?_
  refine x_iconst C dX12_go_1 2 rfl 0 (by decide) ?_
  obtain ⟨σ2, hσ2, hf⟩ := x_bind hf
  refine x_putX C dX12_go_2 5 rfl hσ2 cl11 rfl w1443 rfl rfl rfl ?_
  refine x_aload_n C dX12_go_5 6 rfl 0 rfl rfl ?_
  refine x_iload_n C dX12_go_6 7 rfl 1 rfl rfl ?_
  obtain ⟨w7, hw7, hf⟩ := x_bind hf
  refine x_callSi C dX12_go_7 10 rfl (cX12_isPlacec hw7) kX12_isPlace ksX12_isPlace w1942 ⟨rfl, rfl⟩ ⟨Nat.le_of_ble_eq_true rfl, Nat.le_of_ble_eq_true rfl⟩ ⟨Nat.zero_le _, Nat.zero_le _⟩ rfl rfl (Nat.le_of_ble_eq_true rfl) ?_
  refine x_iconst C dX12_go_10 11 rfl 1 (by decide) ?_
  obtain ⟨o11, ho11, hf⟩ := x_bind hf
  obtain ⟨w11, hw11, hf⟩ := x_bind hf
  refine x_callVi C dX12_go_11 14 rfl ho11 cl11.1 rfl (cX12_rightc hw11) kX12_right kvX12_right w1648 ⟨rfl, rfl⟩ ⟨Nat.le_of_ble_eq_true rfl, Nat.le_of_ble_eq_true rfl⟩ ⟨Nat.zero_le _, Nat.zero_le _⟩ rfl rfl (Nat.le_of_ble_eq_true rfl) ?_
  refine x_if_eq C dX12_go_14 29 (by decide) 17 rfl (fun hc => ?_) (fun hc => ?_)
  · have hf := (if_pos hc).symm.trans hf
    refine x_iconst C dX12_go_29 30 rfl 0 (by decide) ?_
    exact x_iret C (hE _ (Option.some.inj hf).symm) dX12_go_30
  · have hf := (if_neg hc).symm.trans hf
    refine x_aload_n C dX12_go_17 18 rfl 0 rfl rfl ?_
    refine x_iload_n C dX12_go_18 19 rfl 2 rfl rfl ?_
    obtain ⟨w19, hw19, hf⟩ := x_bind hf
    refine x_callSi C dX12_go_19 22 rfl (cX12_isWayc hw19) kX12_isWay ksX12_isWay w2046 ⟨rfl, rfl⟩ ⟨Nat.le_of_ble_eq_true rfl, Nat.le_of_ble_eq_true rfl⟩ ⟨Nat.zero_le _, Nat.zero_le _⟩ rfl rfl (Nat.le_of_ble_eq_true rfl) ?_
    refine x_iconst C dX12_go_22 23 rfl 2 (by decide) ?_
    obtain ⟨o23, ho23, hf⟩ := x_bind hf
    obtain ⟨w23, hw23, hf⟩ := x_bind hf
    refine x_callVi C dX12_go_23 26 rfl ho23 cl11.1 rfl (cX12_rightc hw23) kX12_right kvX12_right w1648 ⟨rfl, rfl⟩ ⟨Nat.le_of_ble_eq_true rfl, Nat.le_of_ble_eq_true rfl⟩ ⟨Nat.zero_le _, Nat.zero_le _⟩ rfl rfl (Nat.le_of_ble_eq_true rfl) ?_
    refine x_if_ne C dX12_go_26 31 (by decide) 29 rfl (fun hc => ?_) (fun hc => ?_)
    · have hf := (if_neg hc).symm.trans hf
      refine x_aload_n C dX12_go_31 32 rfl 0 rfl rfl ?_
      refine x_aload_n C dX12_go_32 33 rfl 0 rfl rfl ?_
      refine x_iload_n C dX12_go_33 34 rfl 1 rfl rfl ?_
      obtain ⟨o34, ho34, hf⟩ := x_bind hf
      obtain ⟨w34, hw34, hf⟩ := x_bind hf
      refine x_callVl C dX12_go_34 37 rfl ho34 cl11.1 rfl (cX12_wordAtc hw34) kX12_wordAt kvX12_wordAt w1845 ⟨rfl, rfl⟩ ⟨Nat.le_of_ble_eq_true rfl, Nat.le_of_ble_eq_true rfl⟩ ⟨Nat.zero_le _, Nat.zero_le _⟩ rfl rfl (Nat.le_of_ble_eq_true rfl) ?_
      refine x_iload_n C dX12_go_37 38 rfl 2 rfl rfl ?_
      obtain ⟨o38, ho38, hf⟩ := x_bind hf
      obtain ⟨w38, hw38, hf⟩ := x_bind hf
      refine x_callVl C dX12_go_38 41 rfl ho38 cl11.1 rfl (cX12_runsc hw38) kX12_runs kvX12_runs w1802 ⟨rfl, rfl⟩ ⟨Nat.le_of_ble_eq_true rfl, Nat.le_of_ble_eq_true rfl⟩ ⟨Nat.zero_le _, Nat.zero_le _⟩ rfl rfl (Nat.le_of_ble_eq_true rfl) ?_
      refine x_lstore_n C dX12_go_41 42 rfl rfl rfl [(3, .long (w38.1)), (0, .ref (x0)), (1, .int (x1)), (2, .int (x2))] rfl ?_
      refine x_aload_n C dX12_go_42 43 rfl 1 rfl rfl ?_
      refine x_iload_n C dX12_go_43 44 rfl 2 rfl rfl ?_
      obtain ⟨o44, ho44, hf⟩ := x_bind hf
      obtain ⟨w44, hw44, hf⟩ := x_bind hf
      refine x_callVi C dX12_go_44 47 rfl ho44 cl11.1 rfl (cX12_stepsOfc hw44) kX12_stepsOf kvX12_stepsOf w1980 ⟨rfl, rfl⟩ ⟨Nat.le_of_ble_eq_true rfl, Nat.le_of_ble_eq_true rfl⟩ ⟨Nat.zero_le _, Nat.zero_le _⟩ rfl rfl (Nat.le_of_ble_eq_true rfl) ?_
      refine x_aload_n C dX12_go_47 48 rfl 1 rfl rfl ?_
      obtain ⟨v48, hv48, hf⟩ := x_bind hf
      refine x_getI C dX12_go_48 51 rfl hv48 cl11 rfl w1466 ?_
      refine x_iadd C dX12_go_51 52 rfl ?_
      refine x_bipush C dX12_go_52 54 rfl 40 (by decide) ?_
      refine x_icmp_le C dX12_go_54 59 (by decide) 57 rfl (fun hc => ?_) (fun hc => ?_)
      · have hf := (if_pos hc).symm.trans hf
        refine x_aload_n C dX12_go_59 60 rfl 1 rfl rfl ?_
        obtain ⟨o60, ho60, hf⟩ := x_bind hf
        obtain ⟨w60, hw60, hf⟩ := x_bind hf
        refine x_callVv C dX12_go_60 63 rfl ho60 cl11.1 rfl (cX12_keepsc hw60) kX12_keeps kvX12_keeps w1772 ⟨rfl, rfl⟩ ⟨Nat.le_of_ble_eq_true rfl, Nat.le_of_ble_eq_true rfl⟩ ⟨Nat.zero_le _, Nat.zero_le _⟩ rfl rfl (Nat.le_of_ble_eq_true rfl) ?_
        refine x_iconst C dX12_go_63 64 rfl 0 (by decide) ?_
        refine x_istore C dX12_go_64 66 rfl rfl [(5, .int (0)), (3, .long (w38.1)), (0, .ref (x0)), (1, .int (x1)), (2, .int (x2))] rfl ?_
        obtain ⟨b66, hb66, hf⟩ := x_bind hf
        refine x_lv [2, 3, 1, 0] (lv' := [(0, .ref (x0)), (1, .int (x1)), (3, .long (w38.1)), (5, .int (0))]) rfl ?_
        refine lpX12_go_66 C hb66 (fun s66 e66 => ?_)
        subst e66
        refine x_aload_n C dX12_go_124 125 rfl 0 rfl rfl ?_
        obtain ⟨v125, hv125, hf⟩ := x_bind hf
        refine x_getI C dX12_go_125 128 rfl hv125 cl11 rfl w1466 ?_
        exact x_iret C (hE _ (Option.some.inj hf).symm) dX12_go_128
      · have hf := (if_neg hc).symm.trans hf
        refine x_iconst C dX12_go_57 58 rfl (-1) (by decide) ?_
        exact x_iret C (hE _ (Option.some.inj hf).symm) dX12_go_58
    · have hf := (if_pos hc).symm.trans hf
      refine x_iconst C dX12_go_29 30 rfl 0 (by decide) ?_
      exact x_iret C (hE _ (Option.some.inj hf).symm) dX12_go_30
theorem dX12_isFigure_0 : decode cX12_isFigure 0 = .ok (.iload_n 0, 1) := by decide +kernel
theorem dX12_isFigure_1 : decode cX12_isFigure 1 = .ok (.i2l, 1) := by decide +kernel
theorem dX12_isFigure_2 : decode cX12_isFigure 2 = .ok (.ldc2_w 182, 3) := by decide +kernel
theorem dX12_isFigure_5 : decode cX12_isFigure 5 = .ok (.ldc2_w 184, 3) := by decide +kernel
theorem dX12_isFigure_8 : decode cX12_isFigure 8 = .ok (.invokestatic 130, 3) := by decide +kernel
theorem dX12_isFigure_11 : decode cX12_isFigure 11 = .ok (.ireturn, 1) := by decide +kernel
abbrev rmX12_isFigure : Room := { frames := 1, cells := 0, slots := 0, locals := 25 }
noncomputable def fX12_isFigure (x0 : Int32) : Option (Int32) :=
(fX12_isIn x0.toInt64 48 57).bind fun w8 =>
(zok w8).bind fun z11 =>
some z11
set_option maxHeartbeats 4000000 in
set_option maxRecDepth 100000 in
theorem cX12_isFigurec {l : Launch} {G : xG} {A : Nat → Prop} {σ : St} {x0 : Int32} {c : Int32} (hf : fX12_isFigure x0 = some c) : Con l yX12_isFigure (xws yX12_isFigure cX12_isFigure 1 (some .boolean)) rmX12_isFigure [.int (x0)] G A σ (some (.int c)) σ := by
  refine x_start rfl (Nat.le_of_ble_eq_true rfl) (fun X _ _ _ C hE0 => ?_)
  have hE : ∀ r, c = r → xE1 X (some (.int r)) σ := fun r e => e ▸ hE0
  show V X (0, 0) σ 0 [(0, .int (x0))] []
  unfold fX12_isFigure at hf
  refine x_iload_n C dX12_isFigure_0 1 rfl 0 rfl rfl ?_
  refine x_i2l C dX12_isFigure_1 2 rfl ?_
  refine x_ldc2 C dX12_isFigure_2 5 rfl w1668 ?_
  refine x_ldc2 C dX12_isFigure_5 8 rfl w1669 ?_
  obtain ⟨w8, hw8, hf⟩ := x_bind hf
  refine x_callSi C dX12_isFigure_8 11 rfl (cX12_isInc hw8) kX12_isIn ksX12_isIn w1645 ⟨rfl, rfl⟩ ⟨Nat.le_of_ble_eq_true rfl, Nat.le_of_ble_eq_true rfl⟩ ⟨Nat.zero_le _, Nat.zero_le _⟩ rfl rfl (Nat.le_of_ble_eq_true rfl) ?_
  obtain ⟨z11, hz11, hf⟩ := x_bind hf
  refine x_topi (zok_nar hz11).1 ?_
  exact x_zret C (zok_w hz11) (hE _ (Option.some.inj hf).symm) dX12_isFigure_11
theorem dX12_isSmall_0 : decode cX12_isSmall 0 = .ok (.iload_n 0, 1) := by decide +kernel
theorem dX12_isSmall_1 : decode cX12_isSmall 1 = .ok (.i2l, 1) := by decide +kernel
theorem dX12_isSmall_2 : decode cX12_isSmall 2 = .ok (.ldc2_w 178, 3) := by decide +kernel
theorem dX12_isSmall_5 : decode cX12_isSmall 5 = .ok (.ldc2_w 180, 3) := by decide +kernel
theorem dX12_isSmall_8 : decode cX12_isSmall 8 = .ok (.invokestatic 130, 3) := by decide +kernel
theorem dX12_isSmall_11 : decode cX12_isSmall 11 = .ok (.ireturn, 1) := by decide +kernel
abbrev rmX12_isSmall : Room := { frames := 1, cells := 0, slots := 0, locals := 25 }
noncomputable def fX12_isSmall (x0 : Int32) : Option (Int32) :=
(fX12_isIn x0.toInt64 97 122).bind fun w8 =>
(zok w8).bind fun z11 =>
some z11
set_option maxHeartbeats 4000000 in
set_option maxRecDepth 100000 in
theorem cX12_isSmallc {l : Launch} {G : xG} {A : Nat → Prop} {σ : St} {x0 : Int32} {c : Int32} (hf : fX12_isSmall x0 = some c) : Con l yX12_isSmall (xws yX12_isSmall cX12_isSmall 1 (some .boolean)) rmX12_isSmall [.int (x0)] G A σ (some (.int c)) σ := by
  refine x_start rfl (Nat.le_of_ble_eq_true rfl) (fun X _ _ _ C hE0 => ?_)
  have hE : ∀ r, c = r → xE1 X (some (.int r)) σ := fun r e => e ▸ hE0
  show V X (0, 0) σ 0 [(0, .int (x0))] []
  unfold fX12_isSmall at hf
  refine x_iload_n C dX12_isSmall_0 1 rfl 0 rfl rfl ?_
  refine x_i2l C dX12_isSmall_1 2 rfl ?_
  refine x_ldc2 C dX12_isSmall_2 5 rfl w1663 ?_
  refine x_ldc2 C dX12_isSmall_5 8 rfl w1664 ?_
  obtain ⟨w8, hw8, hf⟩ := x_bind hf
  refine x_callSi C dX12_isSmall_8 11 rfl (cX12_isInc hw8) kX12_isIn ksX12_isIn w1645 ⟨rfl, rfl⟩ ⟨Nat.le_of_ble_eq_true rfl, Nat.le_of_ble_eq_true rfl⟩ ⟨Nat.zero_le _, Nat.zero_le _⟩ rfl rfl (Nat.le_of_ble_eq_true rfl) ?_
  obtain ⟨z11, hz11, hf⟩ := x_bind hf
  refine x_topi (zok_nar hz11).1 ?_
  exact x_zret C (zok_w hz11) (hE _ (Option.some.inj hf).symm) dX12_isSmall_11
theorem dX12_goes_0 : decode cX12_goes 0 = .ok (.aload_n 0, 1) := by decide +kernel
theorem dX12_goes_1 : decode cX12_goes 1 = .ok (.getfield 186, 3) := by decide +kernel
theorem dX12_goes_4 : decode cX12_goes 4 = .ok (.aload_n 0, 1) := by decide +kernel
theorem dX12_goes_5 : decode cX12_goes 5 = .ok (.getfield 175, 3) := by decide +kernel
theorem dX12_goes_8 : decode cX12_goes 8 = .ok (.if_icmp .ge 42, 3) := by decide +kernel
theorem dX12_goes_11 : decode cX12_goes 11 = .ok (.aload_n 0, 1) := by decide +kernel
theorem dX12_goes_12 : decode cX12_goes 12 = .ok (.aload_n 0, 1) := by decide +kernel
theorem dX12_goes_13 : decode cX12_goes 13 = .ok (.getfield 186, 3) := by decide +kernel
theorem dX12_goes_16 : decode cX12_goes 16 = .ok (.invokevirtual 189, 3) := by decide +kernel
theorem dX12_goes_19 : decode cX12_goes 19 = .ok (.bipush 32, 2) := by decide +kernel
theorem dX12_goes_21 : decode cX12_goes 21 = .ok (.if_icmp .eq 16, 3) := by decide +kernel
theorem dX12_goes_24 : decode cX12_goes 24 = .ok (.aload_n 0, 1) := by decide +kernel
theorem dX12_goes_25 : decode cX12_goes 25 = .ok (.aload_n 0, 1) := by decide +kernel
theorem dX12_goes_26 : decode cX12_goes 26 = .ok (.getfield 186, 3) := by decide +kernel
theorem dX12_goes_29 : decode cX12_goes 29 = .ok (.invokevirtual 189, 3) := by decide +kernel
theorem dX12_goes_32 : decode cX12_goes 32 = .ok (.bipush 10, 2) := by decide +kernel
theorem dX12_goes_34 : decode cX12_goes 34 = .ok (.if_icmp .ne 16, 3) := by decide +kernel
theorem dX12_goes_37 : decode cX12_goes 37 = .ok (.aload_n 0, 1) := by decide +kernel
theorem dX12_goes_38 : decode cX12_goes 38 = .ok (.dup, 1) := by decide +kernel
theorem dX12_goes_39 : decode cX12_goes 39 = .ok (.getfield 186, 3) := by decide +kernel
theorem dX12_goes_42 : decode cX12_goes 42 = .ok (.iconst 1, 1) := by decide +kernel
theorem dX12_goes_43 : decode cX12_goes 43 = .ok (.iadd, 1) := by decide +kernel
theorem dX12_goes_44 : decode cX12_goes 44 = .ok (.putfield 186, 3) := by decide +kernel
theorem dX12_goes_47 : decode cX12_goes 47 = .ok (.goto (-47), 3) := by decide +kernel
theorem dX12_goes_50 : decode cX12_goes 50 = .ok (.aload_n 0, 1) := by decide +kernel
theorem dX12_goes_51 : decode cX12_goes 51 = .ok (.aload_n 0, 1) := by decide +kernel
theorem dX12_goes_52 : decode cX12_goes 52 = .ok (.getfield 186, 3) := by decide +kernel
theorem dX12_goes_55 : decode cX12_goes 55 = .ok (.putfield 192, 3) := by decide +kernel
theorem dX12_goes_58 : decode cX12_goes 58 = .ok (.aload_n 0, 1) := by decide +kernel
theorem dX12_goes_59 : decode cX12_goes 59 = .ok (.aload_n 0, 1) := by decide +kernel
theorem dX12_goes_60 : decode cX12_goes 60 = .ok (.getfield 186, 3) := by decide +kernel
theorem dX12_goes_63 : decode cX12_goes 63 = .ok (.invokevirtual 189, 3) := by decide +kernel
theorem dX12_goes_66 : decode cX12_goes 66 = .ok (.istore_n 1, 1) := by decide +kernel
theorem dX12_goes_67 : decode cX12_goes 67 = .ok (.aload_n 0, 1) := by decide +kernel
theorem dX12_goes_68 : decode cX12_goes 68 = .ok (.getfield 186, 3) := by decide +kernel
theorem dX12_goes_71 : decode cX12_goes 71 = .ok (.aload_n 0, 1) := by decide +kernel
theorem dX12_goes_72 : decode cX12_goes 72 = .ok (.getfield 175, 3) := by decide +kernel
theorem dX12_goes_75 : decode cX12_goes 75 = .ok (.if_icmp .ne 13, 3) := by decide +kernel
theorem dX12_goes_78 : decode cX12_goes 78 = .ok (.aload_n 0, 1) := by decide +kernel
theorem dX12_goes_79 : decode cX12_goes 79 = .ok (.sipush 1002, 3) := by decide +kernel
theorem dX12_goes_82 : decode cX12_goes 82 = .ok (.putfield 195, 3) := by decide +kernel
theorem dX12_goes_85 : decode cX12_goes 85 = .ok (.goto 133, 3) := by decide +kernel
theorem dX12_goes_88 : decode cX12_goes 88 = .ok (.iload_n 1, 1) := by decide +kernel
theorem dX12_goes_89 : decode cX12_goes 89 = .ok (.invokestatic 198, 3) := by decide +kernel
theorem dX12_goes_92 : decode cX12_goes 92 = .ok (.ifCond .eq 37, 3) := by decide +kernel
theorem dX12_goes_95 : decode cX12_goes 95 = .ok (.aload_n 0, 1) := by decide +kernel
theorem dX12_goes_96 : decode cX12_goes 96 = .ok (.sipush 1000, 3) := by decide +kernel
theorem dX12_goes_99 : decode cX12_goes 99 = .ok (.putfield 195, 3) := by decide +kernel
theorem dX12_goes_102 : decode cX12_goes 102 = .ok (.aload_n 0, 1) := by decide +kernel
theorem dX12_goes_103 : decode cX12_goes 103 = .ok (.aload_n 0, 1) := by decide +kernel
theorem dX12_goes_104 : decode cX12_goes 104 = .ok (.getfield 186, 3) := by decide +kernel
theorem dX12_goes_107 : decode cX12_goes 107 = .ok (.invokevirtual 189, 3) := by decide +kernel
theorem dX12_goes_110 : decode cX12_goes 110 = .ok (.invokestatic 198, 3) := by decide +kernel
theorem dX12_goes_113 : decode cX12_goes 113 = .ok (.ifCond .eq 105, 3) := by decide +kernel
theorem dX12_goes_116 : decode cX12_goes 116 = .ok (.aload_n 0, 1) := by decide +kernel
theorem dX12_goes_117 : decode cX12_goes 117 = .ok (.dup, 1) := by decide +kernel
theorem dX12_goes_118 : decode cX12_goes 118 = .ok (.getfield 186, 3) := by decide +kernel
theorem dX12_goes_121 : decode cX12_goes 121 = .ok (.iconst 1, 1) := by decide +kernel
theorem dX12_goes_122 : decode cX12_goes 122 = .ok (.iadd, 1) := by decide +kernel
theorem dX12_goes_123 : decode cX12_goes 123 = .ok (.putfield 186, 3) := by decide +kernel
theorem dX12_goes_126 : decode cX12_goes 126 = .ok (.goto (-24), 3) := by decide +kernel
theorem dX12_goes_129 : decode cX12_goes 129 = .ok (.iload_n 1, 1) := by decide +kernel
theorem dX12_goes_130 : decode cX12_goes 130 = .ok (.invokestatic 202, 3) := by decide +kernel
theorem dX12_goes_133 : decode cX12_goes 133 = .ok (.ifCond .eq 70, 3) := by decide +kernel
theorem dX12_goes_136 : decode cX12_goes 136 = .ok (.aload_n 0, 1) := by decide +kernel
theorem dX12_goes_137 : decode cX12_goes 137 = .ok (.sipush 1001, 3) := by decide +kernel
theorem dX12_goes_140 : decode cX12_goes 140 = .ok (.putfield 195, 3) := by decide +kernel
theorem dX12_goes_143 : decode cX12_goes 143 = .ok (.aload_n 0, 1) := by decide +kernel
theorem dX12_goes_144 : decode cX12_goes 144 = .ok (.iconst 0, 1) := by decide +kernel
theorem dX12_goes_145 : decode cX12_goes 145 = .ok (.putfield 205, 3) := by decide +kernel
theorem dX12_goes_148 : decode cX12_goes 148 = .ok (.aload_n 0, 1) := by decide +kernel
theorem dX12_goes_149 : decode cX12_goes 149 = .ok (.aload_n 0, 1) := by decide +kernel
theorem dX12_goes_150 : decode cX12_goes 150 = .ok (.getfield 186, 3) := by decide +kernel
theorem dX12_goes_153 : decode cX12_goes 153 = .ok (.invokevirtual 189, 3) := by decide +kernel
theorem dX12_goes_156 : decode cX12_goes 156 = .ok (.invokestatic 202, 3) := by decide +kernel
theorem dX12_goes_159 : decode cX12_goes 159 = .ok (.ifCond .eq 59, 3) := by decide +kernel
theorem dX12_goes_162 : decode cX12_goes 162 = .ok (.aload_n 0, 1) := by decide +kernel
theorem dX12_goes_163 : decode cX12_goes 163 = .ok (.ldc 208, 2) := by decide +kernel
theorem dX12_goes_165 : decode cX12_goes 165 = .ok (.bipush 10, 2) := by decide +kernel
theorem dX12_goes_167 : decode cX12_goes 167 = .ok (.aload_n 0, 1) := by decide +kernel
theorem dX12_goes_168 : decode cX12_goes 168 = .ok (.getfield 205, 3) := by decide +kernel
theorem dX12_goes_171 : decode cX12_goes 171 = .ok (.imul, 1) := by decide +kernel
theorem dX12_goes_172 : decode cX12_goes 172 = .ok (.aload_n 0, 1) := by decide +kernel
theorem dX12_goes_173 : decode cX12_goes 173 = .ok (.aload_n 0, 1) := by decide +kernel
theorem dX12_goes_174 : decode cX12_goes 174 = .ok (.getfield 186, 3) := by decide +kernel
theorem dX12_goes_177 : decode cX12_goes 177 = .ok (.invokevirtual 189, 3) := by decide +kernel
theorem dX12_goes_180 : decode cX12_goes 180 = .ok (.iadd, 1) := by decide +kernel
theorem dX12_goes_181 : decode cX12_goes 181 = .ok (.bipush 48, 2) := by decide +kernel
theorem dX12_goes_183 : decode cX12_goes 183 = .ok (.isub, 1) := by decide +kernel
theorem dX12_goes_184 : decode cX12_goes 184 = .ok (.invokestatic 155, 3) := by decide +kernel
theorem dX12_goes_187 : decode cX12_goes 187 = .ok (.putfield 205, 3) := by decide +kernel
theorem dX12_goes_190 : decode cX12_goes 190 = .ok (.aload_n 0, 1) := by decide +kernel
theorem dX12_goes_191 : decode cX12_goes 191 = .ok (.dup, 1) := by decide +kernel
theorem dX12_goes_192 : decode cX12_goes 192 = .ok (.getfield 186, 3) := by decide +kernel
theorem dX12_goes_195 : decode cX12_goes 195 = .ok (.iconst 1, 1) := by decide +kernel
theorem dX12_goes_196 : decode cX12_goes 196 = .ok (.iadd, 1) := by decide +kernel
theorem dX12_goes_197 : decode cX12_goes 197 = .ok (.putfield 186, 3) := by decide +kernel
theorem dX12_goes_200 : decode cX12_goes 200 = .ok (.goto (-52), 3) := by decide +kernel
theorem dX12_goes_203 : decode cX12_goes 203 = .ok (.aload_n 0, 1) := by decide +kernel
theorem dX12_goes_204 : decode cX12_goes 204 = .ok (.iload_n 1, 1) := by decide +kernel
theorem dX12_goes_205 : decode cX12_goes 205 = .ok (.putfield 195, 3) := by decide +kernel
theorem dX12_goes_208 : decode cX12_goes 208 = .ok (.aload_n 0, 1) := by decide +kernel
theorem dX12_goes_209 : decode cX12_goes 209 = .ok (.dup, 1) := by decide +kernel
theorem dX12_goes_210 : decode cX12_goes 210 = .ok (.getfield 186, 3) := by decide +kernel
theorem dX12_goes_213 : decode cX12_goes 213 = .ok (.iconst 1, 1) := by decide +kernel
theorem dX12_goes_214 : decode cX12_goes 214 = .ok (.iadd, 1) := by decide +kernel
theorem dX12_goes_215 : decode cX12_goes 215 = .ok (.putfield 186, 3) := by decide +kernel
theorem dX12_goes_218 : decode cX12_goes 218 = .ok (.return_, 1) := by decide +kernel
abbrev rmX12_goes : Room := { frames := 2, cells := 0, slots := 0, locals := 60 }
noncomputable def fLX12_goes_0 (x0 : Nat) (a : St) : Option ((St) ⊕ (St)) :=
(gI a x0 11 9).bind fun v1 =>
(gI a x0 11 8).bind fun v5 =>
if v5 ≤ v1 then
(some (Sum.inr a))
else
((gI a x0 11 9).bind fun v13 =>
(isO a x0 11).bind fun _ =>
(fX12_byteAt a x0 v13).bind fun w16 =>
if w16 = ((32 : Int32)) then
((gI a x0 11 9).bind fun v39 =>
(wrF a x0 11 9 (.int (v39 + 1))).bind fun σ44 =>
some (Sum.inl σ44))
else
((gI a x0 11 9).bind fun v26 =>
(isO a x0 11).bind fun _ =>
(fX12_byteAt a x0 v26).bind fun w29 =>
if w29 = ((10 : Int32)) then
((gI a x0 11 9).bind fun v39 =>
(wrF a x0 11 9 (.int (v39 + 1))).bind fun σ44 =>
some (Sum.inl σ44))
else
(some (Sum.inr a))))
set_option maxHeartbeats 4000000 in
set_option maxRecDepth 100000 in
theorem lpX12_goes_0 {X : xX} {x0 : Nat}  {a0 : St} {b : St} (C : Ok X cX12_goes 2 RX12 rmX12_goes none) (hb : iterP (fLX12_goes_0 x0) a0 = some b) (hy0 : ∀ s, b = s → V X (0, 0) s 50 [(0, .ref (x0))] []) : V X (0, 0) a0 0 [(0, .ref (x0))] [] := by
  obtain ⟨n, hn⟩ := iterP_some hb
  refine x_loop (P := fun a => V X (0, 0) a 0 [(0, .ref (x0))] []) ?_ n a0 hn
  intro a c hf hK hxx
  have hx0 : ∀ s, c = Sum.inr s → V X (0, 0) s 50 [(0, .ref (x0))] [] := fun s e => hy0 s (hxx _ e).symm
  unfold fLX12_goes_0 at hf
  refine x_aload_n C dX12_goes_0 1 rfl 0 rfl rfl ?_
  obtain ⟨v1, hv1, hf⟩ := x_bind hf
  refine x_getI C dX12_goes_1 4 rfl hv1 cl11 rfl w1452 ?_
  refine x_aload_n C dX12_goes_4 5 rfl 0 rfl rfl ?_
  obtain ⟨v5, hv5, hf⟩ := x_bind hf
  refine x_getI C dX12_goes_5 8 rfl hv5 cl11 rfl w1451 ?_
  refine x_icmp_ge C dX12_goes_8 50 (by decide) 11 rfl (fun hc => ?_) (fun hc => ?_)
  · have hf := (if_pos hc).symm.trans hf
    exact hx0 _ (Option.some.inj hf).symm
  · have hf := (if_neg hc).symm.trans hf
    refine x_aload_n C dX12_goes_11 12 rfl 0 rfl rfl ?_
    refine x_aload_n C dX12_goes_12 13 rfl 0 rfl rfl ?_
    obtain ⟨v13, hv13, hf⟩ := x_bind hf
    refine x_getI C dX12_goes_13 16 rfl hv13 cl11 rfl w1452 ?_
    obtain ⟨o16, ho16, hf⟩ := x_bind hf
    obtain ⟨w16, hw16, hf⟩ := x_bind hf
    refine x_callVi C dX12_goes_16 19 rfl ho16 cl11.1 rfl (cX12_byteAtc hw16) kX12_byteAt kvX12_byteAt w1656 ⟨rfl, rfl⟩ ⟨Nat.le_of_ble_eq_true rfl, Nat.le_of_ble_eq_true rfl⟩ ⟨Nat.zero_le _, Nat.zero_le _⟩ rfl rfl (Nat.le_of_ble_eq_true rfl) ?_
    refine x_bipush C dX12_goes_19 21 rfl 32 (by decide) ?_
    refine x_icmp_eq C dX12_goes_21 37 (by decide) 24 rfl (fun hc => ?_) (fun hc => ?_)
    · have hf := (if_pos hc).symm.trans hf
      refine x_aload_n C dX12_goes_37 38 rfl 0 rfl rfl ?_
      refine x_dup C dX12_goes_38 39 rfl rfl ?_
      obtain ⟨v39, hv39, hf⟩ := x_bind hf
      refine x_getI C dX12_goes_39 42 rfl hv39 cl11 rfl w1452 ?_
      refine x_iconst C dX12_goes_42 43 rfl 1 (by decide) ?_
      refine x_iadd C dX12_goes_43 44 rfl ?_
      obtain ⟨σ44, hσ44, hf⟩ := x_bind hf
      refine x_putX C dX12_goes_44 47 rfl hσ44 cl11 rfl w1452 rfl rfl rfl ?_
      refine x_goto C dX12_goes_47 0 (by decide) ?_
      exact hK _ (Option.some.inj hf).symm
    · have hf := (if_neg hc).symm.trans hf
      refine x_aload_n C dX12_goes_24 25 rfl 0 rfl rfl ?_
      refine x_aload_n C dX12_goes_25 26 rfl 0 rfl rfl ?_
      obtain ⟨v26, hv26, hf⟩ := x_bind hf
      refine x_getI C dX12_goes_26 29 rfl hv26 cl11 rfl w1452 ?_
      obtain ⟨o29, ho29, hf⟩ := x_bind hf
      obtain ⟨w29, hw29, hf⟩ := x_bind hf
      refine x_callVi C dX12_goes_29 32 rfl ho29 cl11.1 rfl (cX12_byteAtc hw29) kX12_byteAt kvX12_byteAt w1656 ⟨rfl, rfl⟩ ⟨Nat.le_of_ble_eq_true rfl, Nat.le_of_ble_eq_true rfl⟩ ⟨Nat.zero_le _, Nat.zero_le _⟩ rfl rfl (Nat.le_of_ble_eq_true rfl) ?_
      refine x_bipush C dX12_goes_32 34 rfl 10 (by decide) ?_
      refine x_icmp_ne C dX12_goes_34 50 (by decide) 37 rfl (fun hc => ?_) (fun hc => ?_)
      · have hf := (if_neg hc).symm.trans hf
        exact hx0 _ (Option.some.inj hf).symm
      · have hf := (if_pos hc).symm.trans hf
        refine x_aload_n C dX12_goes_37 38 rfl 0 rfl rfl ?_
        refine x_dup C dX12_goes_38 39 rfl rfl ?_
        obtain ⟨v39, hv39, hf⟩ := x_bind hf
        refine x_getI C dX12_goes_39 42 rfl hv39 cl11 rfl w1452 ?_
        refine x_iconst C dX12_goes_42 43 rfl 1 (by decide) ?_
        refine x_iadd C dX12_goes_43 44 rfl ?_
        obtain ⟨σ44, hσ44, hf⟩ := x_bind hf
        refine x_putX C dX12_goes_44 47 rfl hσ44 cl11 rfl w1452 rfl rfl rfl ?_
        refine x_goto C dX12_goes_47 0 (by decide) ?_
        exact hK _ (Option.some.inj hf).symm
noncomputable def fLX12_goes_148 (x0 : Nat) (a : St) : Option ((St) ⊕ (St)) :=
(gI a x0 11 9).bind fun v150 =>
(isO a x0 11).bind fun _ =>
(fX12_byteAt a x0 v150).bind fun w153 =>
(fX12_isFigure w153).bind fun w156 =>
if w156 = 0 then
(some (Sum.inr a))
else
((gI a x0 11 12).bind fun v168 =>
(gI a x0 11 9).bind fun v174 =>
(isO a x0 11).bind fun _ =>
(fX12_byteAt a x0 v174).bind fun w177 =>
(wrF a x0 11 12 (.int (imin 1000000 (((10 * v168) + w177) - 48)))).bind fun σ187 =>
(gI σ187 x0 11 9).bind fun v192 =>
(wrF σ187 x0 11 9 (.int (v192 + 1))).bind fun σ197 =>
some (Sum.inl σ197))
set_option maxHeartbeats 4000000 in
set_option maxRecDepth 100000 in
theorem lpX12_goes_148 {X : xX} {x0 : Nat}  {a0 : St} {b : St} (C : Ok X cX12_goes 2 RX12 rmX12_goes none) (hb : iterP (fLX12_goes_148 x0) a0 = some b) (hy0 : ∀ s, b = s → V X (0, 0) s 218 [] []) : V X (0, 0) a0 148 [(0, .ref (x0))] [] := by
  obtain ⟨n, hn⟩ := iterP_some hb
  refine x_loop (P := fun a => V X (0, 0) a 148 [(0, .ref (x0))] []) ?_ n a0 hn
  intro a c hf hK hxx
  have hx0 : ∀ s, c = Sum.inr s → V X (0, 0) s 218 [] [] := fun s e => hy0 s (hxx _ e).symm
  unfold fLX12_goes_148 at hf
  refine x_aload_n C dX12_goes_148 149 rfl 0 rfl rfl ?_
  refine x_aload_n C dX12_goes_149 150 rfl 0 rfl rfl ?_
  obtain ⟨v150, hv150, hf⟩ := x_bind hf
  refine x_getI C dX12_goes_150 153 rfl hv150 cl11 rfl w1452 ?_
  obtain ⟨o153, ho153, hf⟩ := x_bind hf
  obtain ⟨w153, hw153, hf⟩ := x_bind hf
  refine x_callVi C dX12_goes_153 156 rfl ho153 cl11.1 rfl (cX12_byteAtc hw153) kX12_byteAt kvX12_byteAt w1656 ⟨rfl, rfl⟩ ⟨Nat.le_of_ble_eq_true rfl, Nat.le_of_ble_eq_true rfl⟩ ⟨Nat.zero_le _, Nat.zero_le _⟩ rfl rfl (Nat.le_of_ble_eq_true rfl) ?_
  obtain ⟨w156, hw156, hf⟩ := x_bind hf
  refine x_callSi C dX12_goes_156 159 rfl (cX12_isFigurec hw156) kX12_isFigure ksX12_isFigure w1665 ⟨rfl, rfl⟩ ⟨Nat.le_of_ble_eq_true rfl, Nat.le_of_ble_eq_true rfl⟩ ⟨Nat.zero_le _, Nat.zero_le _⟩ rfl rfl (Nat.le_of_ble_eq_true rfl) ?_
  refine x_if_eq C dX12_goes_159 218 (by decide) 162 rfl (fun hc => ?_) (fun hc => ?_)
  · have hf := (if_pos hc).symm.trans hf
    refine x_lv [] (lv' := []) rfl ?_
    exact hx0 _ (Option.some.inj hf).symm
  · have hf := (if_neg hc).symm.trans hf
    refine x_aload_n C dX12_goes_162 163 rfl 0 rfl rfl ?_
    refine x_ldc C dX12_goes_163 165 rfl w1670 ?_
    refine x_bipush C dX12_goes_165 167 rfl 10 (by decide) ?_
    refine x_aload_n C dX12_goes_167 168 rfl 0 rfl rfl ?_
    obtain ⟨v168, hv168, hf⟩ := x_bind hf
    refine x_getI C dX12_goes_168 171 rfl hv168 cl11 rfl w1455 ?_
    refine x_imul C dX12_goes_171 172 rfl ?_
    refine x_aload_n C dX12_goes_172 173 rfl 0 rfl rfl ?_
    refine x_aload_n C dX12_goes_173 174 rfl 0 rfl rfl ?_
    obtain ⟨v174, hv174, hf⟩ := x_bind hf
    refine x_getI C dX12_goes_174 177 rfl hv174 cl11 rfl w1452 ?_
    obtain ⟨o177, ho177, hf⟩ := x_bind hf
    obtain ⟨w177, hw177, hf⟩ := x_bind hf
    refine x_callVi C dX12_goes_177 180 rfl ho177 cl11.1 rfl (cX12_byteAtc hw177) kX12_byteAt kvX12_byteAt w1656 ⟨rfl, rfl⟩ ⟨Nat.le_of_ble_eq_true rfl, Nat.le_of_ble_eq_true rfl⟩ ⟨Nat.zero_le _, Nat.zero_le _⟩ rfl rfl (Nat.le_of_ble_eq_true rfl) ?_
    refine x_iadd C dX12_goes_180 181 rfl ?_
    refine x_bipush C dX12_goes_181 183 rfl 48 (by decide) ?_
    refine x_isub C dX12_goes_183 184 rfl ?_
    refine x_mmin C dX12_goes_184 187 rfl w1671 mminw ⟨Nat.le_of_ble_eq_true rfl, Nat.le_of_ble_eq_true rfl⟩ ⟨Nat.zero_le _, Nat.zero_le _⟩ ?_
    obtain ⟨σ187, hσ187, hf⟩ := x_bind hf
    refine x_putX C dX12_goes_187 190 rfl hσ187 cl11 rfl w1455 rfl rfl rfl ?_
    refine x_aload_n C dX12_goes_190 191 rfl 0 rfl rfl ?_
    refine x_dup C dX12_goes_191 192 rfl rfl ?_
    obtain ⟨v192, hv192, hf⟩ := x_bind hf
    refine x_getI C dX12_goes_192 195 rfl hv192 cl11 rfl w1452 ?_
    refine x_iconst C dX12_goes_195 196 rfl 1 (by decide) ?_
    refine x_iadd C dX12_goes_196 197 rfl ?_
    obtain ⟨σ197, hσ197, hf⟩ := x_bind hf
    refine x_putX C dX12_goes_197 200 rfl hσ197 cl11 rfl w1452 rfl rfl rfl ?_
    refine x_goto C dX12_goes_200 148 (by decide) ?_
    exact hK _ (Option.some.inj hf).symm
noncomputable def fLX12_goes_102 (x0 : Nat) (a : St) : Option ((St) ⊕ (St)) :=
(gI a x0 11 9).bind fun v104 =>
(isO a x0 11).bind fun _ =>
(fX12_byteAt a x0 v104).bind fun w107 =>
(fX12_isSmall w107).bind fun w110 =>
if w110 = 0 then
(some (Sum.inr a))
else
((gI a x0 11 9).bind fun v118 =>
(wrF a x0 11 9 (.int (v118 + 1))).bind fun σ123 =>
some (Sum.inl σ123))
set_option maxHeartbeats 4000000 in
set_option maxRecDepth 100000 in
theorem lpX12_goes_102 {X : xX} {x0 : Nat}  {a0 : St} {b : St} (C : Ok X cX12_goes 2 RX12 rmX12_goes none) (hb : iterP (fLX12_goes_102 x0) a0 = some b) (hy0 : ∀ s, b = s → V X (0, 0) s 218 [] []) : V X (0, 0) a0 102 [(0, .ref (x0))] [] := by
  obtain ⟨n, hn⟩ := iterP_some hb
  refine x_loop (P := fun a => V X (0, 0) a 102 [(0, .ref (x0))] []) ?_ n a0 hn
  intro a c hf hK hxx
  have hx0 : ∀ s, c = Sum.inr s → V X (0, 0) s 218 [] [] := fun s e => hy0 s (hxx _ e).symm
  unfold fLX12_goes_102 at hf
  refine x_aload_n C dX12_goes_102 103 rfl 0 rfl rfl ?_
  refine x_aload_n C dX12_goes_103 104 rfl 0 rfl rfl ?_
  obtain ⟨v104, hv104, hf⟩ := x_bind hf
  refine x_getI C dX12_goes_104 107 rfl hv104 cl11 rfl w1452 ?_
  obtain ⟨o107, ho107, hf⟩ := x_bind hf
  obtain ⟨w107, hw107, hf⟩ := x_bind hf
  refine x_callVi C dX12_goes_107 110 rfl ho107 cl11.1 rfl (cX12_byteAtc hw107) kX12_byteAt kvX12_byteAt w1656 ⟨rfl, rfl⟩ ⟨Nat.le_of_ble_eq_true rfl, Nat.le_of_ble_eq_true rfl⟩ ⟨Nat.zero_le _, Nat.zero_le _⟩ rfl rfl (Nat.le_of_ble_eq_true rfl) ?_
  obtain ⟨w110, hw110, hf⟩ := x_bind hf
  refine x_callSi C dX12_goes_110 113 rfl (cX12_isSmallc hw110) kX12_isSmall ksX12_isSmall w1660 ⟨rfl, rfl⟩ ⟨Nat.le_of_ble_eq_true rfl, Nat.le_of_ble_eq_true rfl⟩ ⟨Nat.zero_le _, Nat.zero_le _⟩ rfl rfl (Nat.le_of_ble_eq_true rfl) ?_
  refine x_if_eq C dX12_goes_113 218 (by decide) 116 rfl (fun hc => ?_) (fun hc => ?_)
  · have hf := (if_pos hc).symm.trans hf
    refine x_lv [] (lv' := []) rfl ?_
    exact hx0 _ (Option.some.inj hf).symm
  · have hf := (if_neg hc).symm.trans hf
    refine x_aload_n C dX12_goes_116 117 rfl 0 rfl rfl ?_
    refine x_dup C dX12_goes_117 118 rfl rfl ?_
    obtain ⟨v118, hv118, hf⟩ := x_bind hf
    refine x_getI C dX12_goes_118 121 rfl hv118 cl11 rfl w1452 ?_
    refine x_iconst C dX12_goes_121 122 rfl 1 (by decide) ?_
    refine x_iadd C dX12_goes_122 123 rfl ?_
    obtain ⟨σ123, hσ123, hf⟩ := x_bind hf
    refine x_putX C dX12_goes_123 126 rfl hσ123 cl11 rfl w1452 rfl rfl rfl ?_
    refine x_goto C dX12_goes_126 102 (by decide) ?_
    exact hK _ (Option.some.inj hf).symm
noncomputable def fJX12_goes_m_50 (σ : St) (x0 : Nat)  : Option (St) :=
(gI σ x0 11 9).bind fun v52 =>
(wrF σ x0 11 10 (.int (v52))).bind fun σ55 =>
(gI σ55 x0 11 9).bind fun v60 =>
(isO σ55 x0 11).bind fun _ =>
(fX12_byteAt σ55 x0 v60).bind fun w63 =>
(gI σ55 x0 11 9).bind fun v68 =>
(gI σ55 x0 11 8).bind fun v72 =>
if v68 = v72 then
((wrF σ55 x0 11 11 (.int (1002))).bind fun σ82 =>
some σ82)
else
((fX12_isSmall w63).bind fun w89 =>
if w89 = 0 then
((fX12_isFigure w63).bind fun w130 =>
if w130 = 0 then
((wrF σ55 x0 11 11 (.int (w63))).bind fun σ205 =>
(gI σ205 x0 11 9).bind fun v210 =>
(wrF σ205 x0 11 9 (.int (v210 + 1))).bind fun σ215 =>
some σ215)
else
((wrF σ55 x0 11 11 (.int (1001))).bind fun σ140 =>
(wrF σ140 x0 11 12 (.int (0))).bind fun σ145 =>
(iterP (fLX12_goes_148 x0) σ145).bind fun b148 =>
some b148))
else
((wrF σ55 x0 11 11 (.int (1000))).bind fun σ99 =>
(iterP (fLX12_goes_102 x0) σ99).bind fun b102 =>
some b102))
set_option maxHeartbeats 4000000 in
set_option maxRecDepth 100000 in
theorem jnX12_goes_m_50 {X : xX} {σ : St} {x0 : Nat}   {c : St} (C : Ok X cX12_goes 2 RX12 rmX12_goes none) (hf : fJX12_goes_m_50 σ x0  = some c) (hE : ∀ r, c = r → xE1 X none r) : V X (0, 0) σ 50 [(0, .ref (x0))] [] := by
  unfold fJX12_goes_m_50 at hf
  refine x_aload_n C dX12_goes_50 51 rfl 0 rfl rfl ?_
  refine x_aload_n C dX12_goes_51 52 rfl 0 rfl rfl ?_
  obtain ⟨v52, hv52, hf⟩ := x_bind hf
  refine x_getI C dX12_goes_52 55 rfl hv52 cl11 rfl w1452 ?_
  obtain ⟨σ55, hσ55, hf⟩ := x_bind hf
  refine x_putX C dX12_goes_55 58 rfl hσ55 cl11 rfl w1453 rfl rfl rfl ?_
  refine x_aload_n C dX12_goes_58 59 rfl 0 rfl rfl ?_
  refine x_aload_n C dX12_goes_59 60 rfl 0 rfl rfl ?_
  obtain ⟨v60, hv60, hf⟩ := x_bind hf
  refine x_getI C dX12_goes_60 63 rfl hv60 cl11 rfl w1452 ?_
  obtain ⟨o63, ho63, hf⟩ := x_bind hf
  obtain ⟨w63, hw63, hf⟩ := x_bind hf
  refine x_callVi C dX12_goes_63 66 rfl ho63 cl11.1 rfl (cX12_byteAtc hw63) kX12_byteAt kvX12_byteAt w1656 ⟨rfl, rfl⟩ ⟨Nat.le_of_ble_eq_true rfl, Nat.le_of_ble_eq_true rfl⟩ ⟨Nat.zero_le _, Nat.zero_le _⟩ rfl rfl (Nat.le_of_ble_eq_true rfl) ?_
  refine x_istore_n C dX12_goes_66 67 rfl rfl rfl [(1, .int (w63)), (0, .ref (x0))] rfl ?_
  refine x_aload_n C dX12_goes_67 68 rfl 1 rfl rfl ?_
  obtain ⟨v68, hv68, hf⟩ := x_bind hf
  refine x_getI C dX12_goes_68 71 rfl hv68 cl11 rfl w1452 ?_
  refine x_aload_n C dX12_goes_71 72 rfl 1 rfl rfl ?_
  obtain ⟨v72, hv72, hf⟩ := x_bind hf
  refine x_getI C dX12_goes_72 75 rfl hv72 cl11 rfl w1451 ?_
  refine x_icmp_ne C dX12_goes_75 88 (by decide) 78 rfl (fun hc => ?_) (fun hc => ?_)
  · have hf := (if_neg hc).symm.trans hf
    refine x_iload_n C dX12_goes_88 89 rfl 0 rfl rfl ?_
    obtain ⟨w89, hw89, hf⟩ := x_bind hf
    refine x_callSi C dX12_goes_89 92 rfl (cX12_isSmallc hw89) kX12_isSmall ksX12_isSmall w1660 ⟨rfl, rfl⟩ ⟨Nat.le_of_ble_eq_true rfl, Nat.le_of_ble_eq_true rfl⟩ ⟨Nat.zero_le _, Nat.zero_le _⟩ rfl rfl (Nat.le_of_ble_eq_true rfl) ?_
    refine x_if_eq C dX12_goes_92 129 (by decide) 95 rfl (fun hc => ?_) (fun hc => ?_)
    · have hf := (if_pos hc).symm.trans hf
      refine x_iload_n C dX12_goes_129 130 rfl 0 rfl rfl ?_
      obtain ⟨w130, hw130, hf⟩ := x_bind hf
      refine x_callSi C dX12_goes_130 133 rfl (cX12_isFigurec hw130) kX12_isFigure ksX12_isFigure w1665 ⟨rfl, rfl⟩ ⟨Nat.le_of_ble_eq_true rfl, Nat.le_of_ble_eq_true rfl⟩ ⟨Nat.zero_le _, Nat.zero_le _⟩ rfl rfl (Nat.le_of_ble_eq_true rfl) ?_
      refine x_if_eq C dX12_goes_133 203 (by decide) 136 rfl (fun hc => ?_) (fun hc => ?_)
      · have hf := (if_pos hc).symm.trans hf
        refine x_aload_n C dX12_goes_203 204 rfl 1 rfl rfl ?_
        refine x_iload_n C dX12_goes_204 205 rfl 0 rfl rfl ?_
        obtain ⟨σ205, hσ205, hf⟩ := x_bind hf
        refine x_putX C dX12_goes_205 208 rfl hσ205 cl11 rfl w1454 rfl rfl rfl ?_
        refine x_aload_n C dX12_goes_208 209 rfl 1 rfl rfl ?_
        refine x_dup C dX12_goes_209 210 rfl rfl ?_
        obtain ⟨v210, hv210, hf⟩ := x_bind hf
        refine x_getI C dX12_goes_210 213 rfl hv210 cl11 rfl w1452 ?_
        refine x_iconst C dX12_goes_213 214 rfl 1 (by decide) ?_
        refine x_iadd C dX12_goes_214 215 rfl ?_
        obtain ⟨σ215, hσ215, hf⟩ := x_bind hf
        refine x_putX C dX12_goes_215 218 rfl hσ215 cl11 rfl w1452 rfl rfl rfl ?_
        exact x_vret C (hE _ (Option.some.inj hf).symm) dX12_goes_218
      · have hf := (if_neg hc).symm.trans hf
        refine x_aload_n C dX12_goes_136 137 rfl 1 rfl rfl ?_
        refine x_sipush C dX12_goes_137 140 rfl 1001 (by decide) ?_
        obtain ⟨σ140, hσ140, hf⟩ := x_bind hf
        refine x_putX C dX12_goes_140 143 rfl hσ140 cl11 rfl w1454 rfl rfl rfl ?_
        refine x_aload_n C dX12_goes_143 144 rfl 1 rfl rfl ?_
        refine x_iconst C dX12_goes_144 145 rfl 0 (by decide) ?_
        obtain ⟨σ145, hσ145, hf⟩ := x_bind hf
        refine x_putX C dX12_goes_145 148 rfl hσ145 cl11 rfl w1455 rfl rfl rfl ?_
        obtain ⟨b148, hb148, hf⟩ := x_bind hf
        refine x_lv [1] (lv' := [(0, .ref (x0))]) rfl ?_
        refine lpX12_goes_148 C hb148 (fun s148 e148 => ?_)
        subst e148
        exact x_vret C (hE _ (Option.some.inj hf).symm) dX12_goes_218
    · have hf := (if_neg hc).symm.trans hf
      refine x_aload_n C dX12_goes_95 96 rfl 1 rfl rfl ?_
      refine x_sipush C dX12_goes_96 99 rfl 1000 (by decide) ?_
      obtain ⟨σ99, hσ99, hf⟩ := x_bind hf
      refine x_putX C dX12_goes_99 102 rfl hσ99 cl11 rfl w1454 rfl rfl rfl ?_
      obtain ⟨b102, hb102, hf⟩ := x_bind hf
      refine x_lv [1] (lv' := [(0, .ref (x0))]) rfl ?_
      refine lpX12_goes_102 C hb102 (fun s102 e102 => ?_)
      subst e102
      exact x_vret C (hE _ (Option.some.inj hf).symm) dX12_goes_218
  · have hf := (if_pos hc).symm.trans hf
    refine x_aload_n C dX12_goes_78 79 rfl 1 rfl rfl ?_
    refine x_sipush C dX12_goes_79 82 rfl 1002 (by decide) ?_
    obtain ⟨σ82, hσ82, hf⟩ := x_bind hf
    refine x_putX C dX12_goes_82 85 rfl hσ82 cl11 rfl w1454 rfl rfl rfl ?_
    refine x_goto C dX12_goes_85 218 (by decide) ?_
    exact x_vret C (hE _ (Option.some.inj hf).symm) dX12_goes_218
noncomputable def fX12_goes (σ : St) (x0 : Nat) : Option (St) :=
(iterP (fLX12_goes_0 x0) σ).bind fun b0 =>
fJX12_goes_m_50 b0 x0
set_option maxHeartbeats 4000000 in
set_option maxRecDepth 100000 in
theorem cX12_goesc {l : Launch} {G : xG} {A : Nat → Prop} {σ : St} {x0 : Nat} {c : St} (hf : fX12_goes σ x0 = some c) : Con l yX12_goes (xws yX12_goes cX12_goes 2 none) rmX12_goes [.ref (x0)] G A σ none c := by
  refine x_start rfl (Nat.le_of_ble_eq_true rfl) (fun X _ _ _ C hE0 => ?_)
  have hE : ∀ r, c = r → xE1 X none r := fun r e => e ▸ hE0
  show V X (0, 0) σ 0 [(0, .ref (x0))] []
  unfold fX12_goes at hf
  obtain ⟨b0, hb0, hf⟩ := x_bind hf
  refine lpX12_goes_0 C hb0 (fun s0 e0 => ?_)
  subst e0
  exact jnX12_goes_m_50 C hf hE
theorem dX12_namesSide_0 : decode cX12_namesSide 0 = .ok (.lload_n 2, 1) := by decide +kernel
theorem dX12_namesSide_1 : decode cX12_namesSide 1 = .ok (.invokestatic 136, 3) := by decide +kernel
theorem dX12_namesSide_4 : decode cX12_namesSide 4 = .ok (.istore 5, 2) := by decide +kernel
theorem dX12_namesSide_6 : decode cX12_namesSide 6 = .ok (.iconst 0, 1) := by decide +kernel
theorem dX12_namesSide_7 : decode cX12_namesSide 7 = .ok (.istore 6, 2) := by decide +kernel
theorem dX12_namesSide_9 : decode cX12_namesSide 9 = .ok (.iload 6, 2) := by decide +kernel
theorem dX12_namesSide_11 : decode cX12_namesSide 11 = .ok (.iload 5, 2) := by decide +kernel
theorem dX12_namesSide_13 : decode cX12_namesSide 13 = .ok (.if_icmp .ge 124, 3) := by decide +kernel
theorem dX12_namesSide_16 : decode cX12_namesSide 16 = .ok (.lload_n 2, 1) := by decide +kernel
theorem dX12_namesSide_17 : decode cX12_namesSide 17 = .ok (.iload 4, 2) := by decide +kernel
theorem dX12_namesSide_19 : decode cX12_namesSide 19 = .ok (.ifCond .eq 13, 3) := by decide +kernel
theorem dX12_namesSide_22 : decode cX12_namesSide 22 = .ok (.iload 5, 2) := by decide +kernel
theorem dX12_namesSide_24 : decode cX12_namesSide 24 = .ok (.iconst 1, 1) := by decide +kernel
theorem dX12_namesSide_25 : decode cX12_namesSide 25 = .ok (.isub, 1) := by decide +kernel
theorem dX12_namesSide_26 : decode cX12_namesSide 26 = .ok (.iload 6, 2) := by decide +kernel
theorem dX12_namesSide_28 : decode cX12_namesSide 28 = .ok (.isub, 1) := by decide +kernel
theorem dX12_namesSide_29 : decode cX12_namesSide 29 = .ok (.goto 5, 3) := by decide +kernel
theorem dX12_namesSide_32 : decode cX12_namesSide 32 = .ok (.iload 6, 2) := by decide +kernel
theorem dX12_namesSide_34 : decode cX12_namesSide 34 = .ok (.invokestatic 160, 3) := by decide +kernel
theorem dX12_namesSide_37 : decode cX12_namesSide 37 = .ok (.istore 7, 2) := by decide +kernel
theorem dX12_namesSide_39 : decode cX12_namesSide 39 = .ok (.iconst 0, 1) := by decide +kernel
theorem dX12_namesSide_40 : decode cX12_namesSide 40 = .ok (.istore 8, 2) := by decide +kernel
theorem dX12_namesSide_42 : decode cX12_namesSide 42 = .ok (.iconst 0, 1) := by decide +kernel
theorem dX12_namesSide_43 : decode cX12_namesSide 43 = .ok (.istore 9, 2) := by decide +kernel
theorem dX12_namesSide_45 : decode cX12_namesSide 45 = .ok (.iload 9, 2) := by decide +kernel
theorem dX12_namesSide_47 : decode cX12_namesSide 47 = .ok (.iconst 5, 1) := by decide +kernel
theorem dX12_namesSide_48 : decode cX12_namesSide 48 = .ok (.if_icmp .ge 30, 3) := by decide +kernel
theorem dX12_namesSide_51 : decode cX12_namesSide 51 = .ok (.iload 8, 2) := by decide +kernel
theorem dX12_namesSide_53 : decode cX12_namesSide 53 = .ok (.aload_n 0, 1) := by decide +kernel
theorem dX12_namesSide_54 : decode cX12_namesSide 54 = .ok (.getfield 55, 3) := by decide +kernel
theorem dX12_namesSide_57 : decode cX12_namesSide 57 = .ok (.iload 9, 2) := by decide +kernel
theorem dX12_namesSide_59 : decode cX12_namesSide 59 = .ok (.iaload, 1) := by decide +kernel
theorem dX12_namesSide_60 : decode cX12_namesSide 60 = .ok (.iconst (-1), 1) := by decide +kernel
theorem dX12_namesSide_61 : decode cX12_namesSide 61 = .ok (.if_icmp .eq 7, 3) := by decide +kernel
theorem dX12_namesSide_64 : decode cX12_namesSide 64 = .ok (.iconst 1, 1) := by decide +kernel
theorem dX12_namesSide_65 : decode cX12_namesSide 65 = .ok (.goto 4, 3) := by decide +kernel
theorem dX12_namesSide_68 : decode cX12_namesSide 68 = .ok (.iconst 0, 1) := by decide +kernel
theorem dX12_namesSide_69 : decode cX12_namesSide 69 = .ok (.iadd, 1) := by decide +kernel
theorem dX12_namesSide_70 : decode cX12_namesSide 70 = .ok (.istore 8, 2) := by decide +kernel
theorem dX12_namesSide_72 : decode cX12_namesSide 72 = .ok (.iinc 9 1, 3) := by decide +kernel
theorem dX12_namesSide_75 : decode cX12_namesSide 75 = .ok (.goto (-30), 3) := by decide +kernel
theorem dX12_namesSide_78 : decode cX12_namesSide 78 = .ok (.aload_n 0, 1) := by decide +kernel
theorem dX12_namesSide_79 : decode cX12_namesSide 79 = .ok (.getfield 55, 3) := by decide +kernel
theorem dX12_namesSide_82 : decode cX12_namesSide 82 = .ok (.iload 7, 2) := by decide +kernel
theorem dX12_namesSide_84 : decode cX12_namesSide 84 = .ok (.aload_n 0, 1) := by decide +kernel
theorem dX12_namesSide_85 : decode cX12_namesSide 85 = .ok (.getfield 55, 3) := by decide +kernel
theorem dX12_namesSide_88 : decode cX12_namesSide 88 = .ok (.iload 7, 2) := by decide +kernel
theorem dX12_namesSide_90 : decode cX12_namesSide 90 = .ok (.iaload, 1) := by decide +kernel
theorem dX12_namesSide_91 : decode cX12_namesSide 91 = .ok (.iconst (-1), 1) := by decide +kernel
theorem dX12_namesSide_92 : decode cX12_namesSide 92 = .ok (.if_icmp .ne 8, 3) := by decide +kernel
theorem dX12_namesSide_95 : decode cX12_namesSide 95 = .ok (.iload 8, 2) := by decide +kernel
theorem dX12_namesSide_97 : decode cX12_namesSide 97 = .ok (.goto 10, 3) := by decide +kernel
theorem dX12_namesSide_100 : decode cX12_namesSide 100 = .ok (.aload_n 0, 1) := by decide +kernel
theorem dX12_namesSide_101 : decode cX12_namesSide 101 = .ok (.getfield 55, 3) := by decide +kernel
theorem dX12_namesSide_104 : decode cX12_namesSide 104 = .ok (.iload 7, 2) := by decide +kernel
theorem dX12_namesSide_106 : decode cX12_namesSide 106 = .ok (.iaload, 1) := by decide +kernel
theorem dX12_namesSide_107 : decode cX12_namesSide 107 = .ok (.iastore, 1) := by decide +kernel
theorem dX12_namesSide_108 : decode cX12_namesSide 108 = .ok (.aload_n 1, 1) := by decide +kernel
theorem dX12_namesSide_109 : decode cX12_namesSide 109 = .ok (.aload_n 0, 1) := by decide +kernel
theorem dX12_namesSide_110 : decode cX12_namesSide 110 = .ok (.getfield 496, 3) := by decide +kernel
theorem dX12_namesSide_113 : decode cX12_namesSide 113 = .ok (.aload_n 0, 1) := by decide +kernel
theorem dX12_namesSide_114 : decode cX12_namesSide 114 = .ok (.getfield 55, 3) := by decide +kernel
theorem dX12_namesSide_117 : decode cX12_namesSide 117 = .ok (.iload 7, 2) := by decide +kernel
theorem dX12_namesSide_119 : decode cX12_namesSide 119 = .ok (.iaload, 1) := by decide +kernel
theorem dX12_namesSide_120 : decode cX12_namesSide 120 = .ok (.iastore, 1) := by decide +kernel
theorem dX12_namesSide_121 : decode cX12_namesSide 121 = .ok (.aload_n 0, 1) := by decide +kernel
theorem dX12_namesSide_122 : decode cX12_namesSide 122 = .ok (.dup, 1) := by decide +kernel
theorem dX12_namesSide_123 : decode cX12_namesSide 123 = .ok (.getfield 496, 3) := by decide +kernel
theorem dX12_namesSide_126 : decode cX12_namesSide 126 = .ok (.iconst 1, 1) := by decide +kernel
theorem dX12_namesSide_127 : decode cX12_namesSide 127 = .ok (.iadd, 1) := by decide +kernel
theorem dX12_namesSide_128 : decode cX12_namesSide 128 = .ok (.putfield 496, 3) := by decide +kernel
theorem dX12_namesSide_131 : decode cX12_namesSide 131 = .ok (.iinc 6 1, 3) := by decide +kernel
theorem dX12_namesSide_134 : decode cX12_namesSide 134 = .ok (.goto (-125), 3) := by decide +kernel
theorem dX12_namesSide_137 : decode cX12_namesSide 137 = .ok (.return_, 1) := by decide +kernel
abbrev rmX12_namesSide : Room := { frames := 3, cells := 0, slots := 0, locals := 69 }
noncomputable def fLX12_namesSide_45 (σ : St) (x0 : Nat) (x1 : Nat) (x2 : Int64) (x4 : Int32) (x5 : Int32) (x6 : Int32) (x7 : Int32) (a : Int32 × Int32) : Option ((Int32 × Int32) ⊕ (Int32)) :=
if ((5 : Int32)) ≤ a.2 then
(some (Sum.inr a.1))
else
((gR σ x0 11 36).bind fun v54 =>
(aI σ v54 0 a.2).bind fun v59 =>
if v59 = (((-1) : Int32)) then
(xlet (a.1 + 0) fun v70 =>
xlet (a.2 + 1) fun v72 =>
some (Sum.inl (v70, v72)))
else
(xlet (a.1 + 1) fun v70 =>
xlet (a.2 + 1) fun v72 =>
some (Sum.inl (v70, v72))))
set_option maxHeartbeats 4000000 in
set_option maxRecDepth 100000 in
theorem lpX12_namesSide_45 {X : xX} {σ : St} {x0 : Nat} {x1 : Nat} {x2 : Int64} {x4 : Int32} {x5 : Int32} {x6 : Int32} {x7 : Int32}  {a0 : Int32 × Int32} {b : Int32} (C : Ok X cX12_namesSide 10 RX12 rmX12_namesSide none) (hb : iterP (fLX12_namesSide_45 σ x0 x1 x2 x4 x5 x6 x7) a0 = some b) (hy0 : ∀ s, b = s → V X (0, 0) σ 78 [(0, .ref (x0)), (1, .ref (x1)), (2, .long (x2)), (4, .int (x4)), (5, .int (x5)), (6, .int (x6)), (7, .int (x7)), (8, .int (s))] []) : V X (0, 0) σ 45 [(0, .ref (x0)), (1, .ref (x1)), (2, .long (x2)), (4, .int (x4)), (5, .int (x5)), (6, .int (x6)), (7, .int (x7)), (8, .int (a0.1)), (9, .int (a0.2))] [] := by
  obtain ⟨n, hn⟩ := iterP_some hb
  refine x_loop (P := fun a => V X (0, 0) σ 45 [(0, .ref (x0)), (1, .ref (x1)), (2, .long (x2)), (4, .int (x4)), (5, .int (x5)), (6, .int (x6)), (7, .int (x7)), (8, .int (a.1)), (9, .int (a.2))] []) ?_ n a0 hn
  intro a c hf hK hxx
  have hx0 : ∀ s, c = Sum.inr s → V X (0, 0) σ 78 [(0, .ref (x0)), (1, .ref (x1)), (2, .long (x2)), (4, .int (x4)), (5, .int (x5)), (6, .int (x6)), (7, .int (x7)), (8, .int (s))] [] := fun s e => hy0 s (hxx _ e).symm
  unfold fLX12_namesSide_45 at hf
  refine x_iload C dX12_namesSide_45 47 rfl 8 rfl ?_
  refine x_iconst C dX12_namesSide_47 48 rfl 5 (by decide) ?_
  refine x_icmp_ge C dX12_namesSide_48 78 (by decide) 51 rfl (fun hc => ?_) (fun hc => ?_)
  · have hf := (if_pos hc).symm.trans hf
    refine x_lv [0, 1, 2, 3, 4, 5, 6, 7] (lv' := [(0, .ref (x0)), (1, .ref (x1)), (2, .long (x2)), (4, .int (x4)), (5, .int (x5)), (6, .int (x6)), (7, .int (x7)), (8, .int (a.1))]) rfl ?_
    exact hx0 _ (Option.some.inj hf).symm
  · have hf := (if_neg hc).symm.trans hf
    refine x_iload C dX12_namesSide_51 53 rfl 7 rfl ?_
    refine x_aload_n C dX12_namesSide_53 54 rfl 0 rfl rfl ?_
    obtain ⟨v54, hv54, hf⟩ := x_bind hf
    refine x_getR C dX12_namesSide_54 57 rfl hv54 cl11 rfl w1479 ?_
    refine x_iload C dX12_namesSide_57 59 rfl 8 rfl ?_
    obtain ⟨v59, hv59, hf⟩ := x_bind hf
    refine x_iaload C dX12_namesSide_59 60 rfl hv59 ?_
    refine x_iconst C dX12_namesSide_60 61 rfl (-1) (by decide) ?_
    refine x_icmp_eq C dX12_namesSide_61 68 (by decide) 64 rfl (fun hc => ?_) (fun hc => ?_)
    · have hf := (if_pos hc).symm.trans hf
      refine x_iconst C dX12_namesSide_68 69 rfl 0 (by decide) ?_
      refine x_iadd C dX12_namesSide_69 70 rfl ?_
      obtain ⟨v70, ev70, hf⟩ := xlet_some hf
      refine x_topi ev70 ?_
      refine x_istore C dX12_namesSide_70 72 rfl rfl [(8, .int (v70)), (0, .ref (x0)), (1, .ref (x1)), (2, .long (x2)), (4, .int (x4)), (5, .int (x5)), (6, .int (x6)), (7, .int (x7)), (9, .int (a.2))] rfl ?_
      obtain ⟨v72, ev72, hf⟩ := xlet_some hf
      refine x_iinc C dX12_namesSide_72 75 rfl 8 rfl v72 ev72 rfl [(9, .int (v72)), (8, .int (v70)), (0, .ref (x0)), (1, .ref (x1)), (2, .long (x2)), (4, .int (x4)), (5, .int (x5)), (6, .int (x6)), (7, .int (x7))] rfl ?_
      refine x_goto C dX12_namesSide_75 45 (by decide) ?_
      refine x_lv [2, 3, 4, 5, 6, 7, 8, 1, 0] (lv' := [(0, .ref (x0)), (1, .ref (x1)), (2, .long (x2)), (4, .int (x4)), (5, .int (x5)), (6, .int (x6)), (7, .int (x7)), (8, .int (v70)), (9, .int (v72))]) rfl ?_
      exact hK _ (Option.some.inj hf).symm
    · have hf := (if_neg hc).symm.trans hf
      refine x_iconst C dX12_namesSide_64 65 rfl 1 (by decide) ?_
      refine x_goto C dX12_namesSide_65 69 (by decide) ?_
      refine x_iadd C dX12_namesSide_69 70 rfl ?_
      obtain ⟨v70, ev70, hf⟩ := xlet_some hf
      refine x_topi ev70 ?_
      refine x_istore C dX12_namesSide_70 72 rfl rfl [(8, .int (v70)), (0, .ref (x0)), (1, .ref (x1)), (2, .long (x2)), (4, .int (x4)), (5, .int (x5)), (6, .int (x6)), (7, .int (x7)), (9, .int (a.2))] rfl ?_
      obtain ⟨v72, ev72, hf⟩ := xlet_some hf
      refine x_iinc C dX12_namesSide_72 75 rfl 8 rfl v72 ev72 rfl [(9, .int (v72)), (8, .int (v70)), (0, .ref (x0)), (1, .ref (x1)), (2, .long (x2)), (4, .int (x4)), (5, .int (x5)), (6, .int (x6)), (7, .int (x7))] rfl ?_
      refine x_goto C dX12_namesSide_75 45 (by decide) ?_
      refine x_lv [2, 3, 4, 5, 6, 7, 8, 1, 0] (lv' := [(0, .ref (x0)), (1, .ref (x1)), (2, .long (x2)), (4, .int (x4)), (5, .int (x5)), (6, .int (x6)), (7, .int (x7)), (8, .int (v70)), (9, .int (v72))]) rfl ?_
      exact hK _ (Option.some.inj hf).symm
noncomputable def fJX12_namesSide_9_107 (σ : St) (x0 : Nat) (x1 : Nat) (x2 : Int64) (x4 : Int32) (x5 : Int32) (x6 : Int32) (x7 : Int32) (t0 : Int32) (t1 : Int32) (t2 : Nat) : Option ((Int32 × St) ⊕ (St)) :=
(sI σ t2 t1 t0).bind fun σ107 =>
(gI σ107 x0 11 39).bind fun v110 =>
(gR σ107 x0 11 36).bind fun v114 =>
(aI σ107 v114 0 x7).bind fun v119 =>
(sI σ107 x1 v110 v119).bind fun σ120 =>
(gI σ120 x0 11 39).bind fun v123 =>
(wrF σ120 x0 11 39 (.int (v123 + 1))).bind fun σ128 =>
xlet (x6 + 1) fun v131 =>
some (Sum.inl (v131, σ128))
set_option maxHeartbeats 4000000 in
set_option maxRecDepth 100000 in
theorem jnX12_namesSide_9_107 {X : xX} {σ : St} {x0 : Nat} {x1 : Nat} {x2 : Int64} {x4 : Int32} {x5 : Int32} {x6 : Int32} {x7 : Int32} {t0 : Int32} {t1 : Int32} {t2 : Nat}  {c : (Int32 × St) ⊕ (St)} (C : Ok X cX12_namesSide 10 RX12 rmX12_namesSide none) (hf : fJX12_namesSide_9_107 σ x0 x1 x2 x4 x5 x6 x7 t0 t1 t2 = some c) (hK : ∀ a', c = Sum.inl a' → V X (0, 0) a'.2 9 [(0, .ref (x0)), (1, .ref (x1)), (2, .long (x2)), (4, .int (x4)), (5, .int (x5)), (6, .int (a'.1))] []) (hx0 : ∀ s, c = Sum.inr s → V X (0, 0) s 137 [] []) : V X (0, 0) σ 107 [(0, .ref (x0)), (1, .ref (x1)), (2, .long (x2)), (4, .int (x4)), (5, .int (x5)), (6, .int (x6)), (7, .int (x7))] [.int (t0), .int (t1), .ref (t2)] := by
  unfold fJX12_namesSide_9_107 at hf
  obtain ⟨σ107, hσ107, hf⟩ := x_bind hf
  refine x_iastore C dX12_namesSide_107 108 rfl hσ107 ?_
  refine x_aload_n C dX12_namesSide_108 109 rfl 1 rfl rfl ?_
  refine x_aload_n C dX12_namesSide_109 110 rfl 0 rfl rfl ?_
  obtain ⟨v110, hv110, hf⟩ := x_bind hf
  refine x_getI C dX12_namesSide_110 113 rfl hv110 cl11 rfl w1482 ?_
  refine x_aload_n C dX12_namesSide_113 114 rfl 0 rfl rfl ?_
  obtain ⟨v114, hv114, hf⟩ := x_bind hf
  refine x_getR C dX12_namesSide_114 117 rfl hv114 cl11 rfl w1479 ?_
  refine x_iload C dX12_namesSide_117 119 rfl 6 rfl ?_
  obtain ⟨v119, hv119, hf⟩ := x_bind hf
  refine x_iaload C dX12_namesSide_119 120 rfl hv119 ?_
  obtain ⟨σ120, hσ120, hf⟩ := x_bind hf
  refine x_iastore C dX12_namesSide_120 121 rfl hσ120 ?_
  refine x_aload_n C dX12_namesSide_121 122 rfl 0 rfl rfl ?_
  refine x_dup C dX12_namesSide_122 123 rfl rfl ?_
  obtain ⟨v123, hv123, hf⟩ := x_bind hf
  refine x_getI C dX12_namesSide_123 126 rfl hv123 cl11 rfl w1482 ?_
  refine x_iconst C dX12_namesSide_126 127 rfl 1 (by decide) ?_
  refine x_iadd C dX12_namesSide_127 128 rfl ?_
  obtain ⟨σ128, hσ128, hf⟩ := x_bind hf
  refine x_putX C dX12_namesSide_128 131 rfl hσ128 cl11 rfl w1482 rfl rfl rfl ?_
  obtain ⟨v131, ev131, hf⟩ := xlet_some hf
  refine x_iinc C dX12_namesSide_131 134 rfl 5 rfl v131 ev131 rfl [(6, .int (v131)), (0, .ref (x0)), (1, .ref (x1)), (2, .long (x2)), (4, .int (x4)), (5, .int (x5)), (7, .int (x7))] rfl ?_
  refine x_goto C dX12_namesSide_134 9 (by decide) ?_
  refine x_lv [1, 2, 3, 4, 5, 0] (lv' := [(0, .ref (x0)), (1, .ref (x1)), (2, .long (x2)), (4, .int (x4)), (5, .int (x5)), (6, .int (v131))]) rfl ?_
  exact hK _ (Option.some.inj hf).symm
noncomputable def fJX12_namesSide_9_34 (σ : St) (x0 : Nat) (x1 : Nat) (x2 : Int64) (x4 : Int32) (x5 : Int32) (x6 : Int32) (t0 : Int32) (t1 : Int64) : Option ((Int32 × St) ⊕ (St)) :=
(fX12_letterAt t1 t0).bind fun w34 =>
(iterP (fLX12_namesSide_45 σ x0 x1 x2 x4 x5 x6 w34) (0, 0)).bind fun b45 =>
(gR σ x0 11 36).bind fun v79 =>
(gR σ x0 11 36).bind fun v85 =>
(aI σ v85 0 w34).bind fun v90 =>
if v90 = (((-1) : Int32)) then
(fJX12_namesSide_9_107 σ x0 x1 x2 x4 x5 x6 w34 b45 w34 v79)
else
((gR σ x0 11 36).bind fun v101 =>
(aI σ v101 0 w34).bind fun v106 =>
fJX12_namesSide_9_107 σ x0 x1 x2 x4 x5 x6 w34 v106 w34 v79)
set_option maxHeartbeats 4000000 in
set_option maxRecDepth 100000 in
theorem jnX12_namesSide_9_34 {X : xX} {σ : St} {x0 : Nat} {x1 : Nat} {x2 : Int64} {x4 : Int32} {x5 : Int32} {x6 : Int32} {t0 : Int32} {t1 : Int64}  {c : (Int32 × St) ⊕ (St)} (C : Ok X cX12_namesSide 10 RX12 rmX12_namesSide none) (hf : fJX12_namesSide_9_34 σ x0 x1 x2 x4 x5 x6 t0 t1 = some c) (hK : ∀ a', c = Sum.inl a' → V X (0, 0) a'.2 9 [(0, .ref (x0)), (1, .ref (x1)), (2, .long (x2)), (4, .int (x4)), (5, .int (x5)), (6, .int (a'.1))] []) (hx0 : ∀ s, c = Sum.inr s → V X (0, 0) s 137 [] []) : V X (0, 0) σ 34 [(0, .ref (x0)), (1, .ref (x1)), (2, .long (x2)), (4, .int (x4)), (5, .int (x5)), (6, .int (x6))] [.int (t0), .long (t1)] := by
  unfold fJX12_namesSide_9_34 at hf
  obtain ⟨w34, hw34, hf⟩ := x_bind hf
  refine x_callSi C dX12_namesSide_34 37 rfl (cX12_letterAtc hw34) kX12_letterAt ksX12_letterAt w1722 ⟨rfl, rfl⟩ ⟨Nat.le_of_ble_eq_true rfl, Nat.le_of_ble_eq_true rfl⟩ ⟨Nat.zero_le _, Nat.zero_le _⟩ rfl rfl (Nat.le_of_ble_eq_true rfl) ?_
  refine x_istore C dX12_namesSide_37 39 rfl rfl [(7, .int (w34)), (0, .ref (x0)), (1, .ref (x1)), (2, .long (x2)), (4, .int (x4)), (5, .int (x5)), (6, .int (x6))] rfl ?_
  refine x_iconst C dX12_namesSide_39 40 rfl 0 (by decide) ?_
  refine x_istore C dX12_namesSide_40 42 rfl rfl [(8, .int (0)), (7, .int (w34)), (0, .ref (x0)), (1, .ref (x1)), (2, .long (x2)), (4, .int (x4)), (5, .int (x5)), (6, .int (x6))] rfl ?_
  refine x_iconst C dX12_namesSide_42 43 rfl 0 (by decide) ?_
  refine x_istore C dX12_namesSide_43 45 rfl rfl [(9, .int (0)), (8, .int (0)), (7, .int (w34)), (0, .ref (x0)), (1, .ref (x1)), (2, .long (x2)), (4, .int (x4)), (5, .int (x5)), (6, .int (x6))] rfl ?_
  obtain ⟨b45, hb45, hf⟩ := x_bind hf
  refine x_lv [3, 4, 5, 6, 7, 8, 2, 1, 0] (lv' := [(0, .ref (x0)), (1, .ref (x1)), (2, .long (x2)), (4, .int (x4)), (5, .int (x5)), (6, .int (x6)), (7, .int (w34)), (8, .int (0)), (9, .int (0))]) rfl ?_
  refine lpX12_namesSide_45 C hb45 (fun s45 e45 => ?_)
  subst e45
  refine x_aload_n C dX12_namesSide_78 79 rfl 0 rfl rfl ?_
  obtain ⟨v79, hv79, hf⟩ := x_bind hf
  refine x_getR C dX12_namesSide_79 82 rfl hv79 cl11 rfl w1479 ?_
  refine x_iload C dX12_namesSide_82 84 rfl 6 rfl ?_
  refine x_aload_n C dX12_namesSide_84 85 rfl 0 rfl rfl ?_
  obtain ⟨v85, hv85, hf⟩ := x_bind hf
  refine x_getR C dX12_namesSide_85 88 rfl hv85 cl11 rfl w1479 ?_
  refine x_iload C dX12_namesSide_88 90 rfl 6 rfl ?_
  obtain ⟨v90, hv90, hf⟩ := x_bind hf
  refine x_iaload C dX12_namesSide_90 91 rfl hv90 ?_
  refine x_iconst C dX12_namesSide_91 92 rfl (-1) (by decide) ?_
  refine x_icmp_ne C dX12_namesSide_92 100 (by decide) 95 rfl (fun hc => ?_) (fun hc => ?_)
  · have hf := (if_neg hc).symm.trans hf
    refine x_aload_n C dX12_namesSide_100 101 rfl 0 rfl rfl ?_
    obtain ⟨v101, hv101, hf⟩ := x_bind hf
    refine x_getR C dX12_namesSide_101 104 rfl hv101 cl11 rfl w1479 ?_
    refine x_iload C dX12_namesSide_104 106 rfl 6 rfl ?_
    obtain ⟨v106, hv106, hf⟩ := x_bind hf
    refine x_iaload C dX12_namesSide_106 107 rfl hv106 ?_
    refine x_lv [0, 1, 2, 3, 4, 5, 6] (lv' := [(0, .ref (x0)), (1, .ref (x1)), (2, .long (x2)), (4, .int (x4)), (5, .int (x5)), (6, .int (x6)), (7, .int (w34))]) rfl ?_
    exact jnX12_namesSide_9_107 C hf hK hx0
  · have hf := (if_pos hc).symm.trans hf
    refine x_iload C dX12_namesSide_95 97 rfl 7 rfl ?_
    refine x_goto C dX12_namesSide_97 107 (by decide) ?_
    refine x_lv [0, 1, 2, 3, 4, 5, 6] (lv' := [(0, .ref (x0)), (1, .ref (x1)), (2, .long (x2)), (4, .int (x4)), (5, .int (x5)), (6, .int (x6)), (7, .int (w34))]) rfl ?_
    exact jnX12_namesSide_9_107 C hf hK hx0
noncomputable def fLX12_namesSide_9 (x0 : Nat) (x1 : Nat) (x2 : Int64) (x4 : Int32) (x5 : Int32) (a : Int32 × St) : Option ((Int32 × St) ⊕ (St)) :=
if x5 ≤ a.1 then
(some (Sum.inr a.2))
else
(if x4 = 0 then
(fJX12_namesSide_9_34 a.2 x0 x1 x2 x4 x5 a.1 a.1 x2)
else
(fJX12_namesSide_9_34 a.2 x0 x1 x2 x4 x5 a.1 ((x5 - 1) - a.1) x2))
set_option maxHeartbeats 4000000 in
set_option maxRecDepth 100000 in
theorem lpX12_namesSide_9 {X : xX} {x0 : Nat} {x1 : Nat} {x2 : Int64} {x4 : Int32} {x5 : Int32}  {a0 : Int32 × St} {b : St} (C : Ok X cX12_namesSide 10 RX12 rmX12_namesSide none) (hb : iterP (fLX12_namesSide_9 x0 x1 x2 x4 x5) a0 = some b) (hy0 : ∀ s, b = s → V X (0, 0) s 137 [] []) : V X (0, 0) a0.2 9 [(0, .ref (x0)), (1, .ref (x1)), (2, .long (x2)), (4, .int (x4)), (5, .int (x5)), (6, .int (a0.1))] [] := by
  obtain ⟨n, hn⟩ := iterP_some hb
  refine x_loop (P := fun a => V X (0, 0) a.2 9 [(0, .ref (x0)), (1, .ref (x1)), (2, .long (x2)), (4, .int (x4)), (5, .int (x5)), (6, .int (a.1))] []) ?_ n a0 hn
  intro a c hf hK hxx
  have hx0 : ∀ s, c = Sum.inr s → V X (0, 0) s 137 [] [] := fun s e => hy0 s (hxx _ e).symm
  unfold fLX12_namesSide_9 at hf
  refine x_iload C dX12_namesSide_9 11 rfl 5 rfl ?_
  refine x_iload C dX12_namesSide_11 13 rfl 4 rfl ?_
  refine x_icmp_ge C dX12_namesSide_13 137 (by decide) 16 rfl (fun hc => ?_) (fun hc => ?_)
  · have hf := (if_pos hc).symm.trans hf
    refine x_lv [] (lv' := []) rfl ?_
    exact hx0 _ (Option.some.inj hf).symm
  · have hf := (if_neg hc).symm.trans hf
    refine x_lload_n C dX12_namesSide_16 17 rfl 2 rfl rfl ?_
    refine x_iload C dX12_namesSide_17 19 rfl 3 rfl ?_
    refine x_if_eq C dX12_namesSide_19 32 (by decide) 22 rfl (fun hc => ?_) (fun hc => ?_)
    · have hf := (if_pos hc).symm.trans hf
      refine x_iload C dX12_namesSide_32 34 rfl 5 rfl ?_
      exact jnX12_namesSide_9_34 C hf hK hx0
    · have hf := (if_neg hc).symm.trans hf
      refine x_iload C dX12_namesSide_22 24 rfl 4 rfl ?_
      refine x_iconst C dX12_namesSide_24 25 rfl 1 (by decide) ?_
      refine x_isub C dX12_namesSide_25 26 rfl ?_
      refine x_iload C dX12_namesSide_26 28 rfl 5 rfl ?_
      refine x_isub C dX12_namesSide_28 29 rfl ?_
      refine x_goto C dX12_namesSide_29 34 (by decide) ?_
      exact jnX12_namesSide_9_34 C hf hK hx0
noncomputable def fX12_namesSide (σ : St) (x0 : Nat) (x1 : Nat) (x2 : Int64) (x4 : Int32) : Option (St) :=
(fX12_length x2).bind fun w1 =>
(iterP (fLX12_namesSide_9 x0 x1 x2 x4 w1) (0, σ)).bind fun b9 =>
some b9
set_option maxHeartbeats 4000000 in
set_option maxRecDepth 100000 in
theorem cX12_namesSidec {l : Launch} {G : xG} {A : Nat → Prop} {σ : St} {x0 : Nat} {x1 : Nat} {x2 : Int64} {x4 : Int32} {c : St} (hf : fX12_namesSide σ x0 x1 x2 x4 = some c) : Con l yX12_namesSide (xws yX12_namesSide cX12_namesSide 10 none) rmX12_namesSide [.ref (x0), .ref (x1), .long (x2), .int (x4)] G A σ none c := by
  refine x_start rfl (Nat.le_of_ble_eq_true rfl) (fun X _ _ _ C hE0 => ?_)
  have hE : ∀ r, c = r → xE1 X none r := fun r e => e ▸ hE0
  show V X (0, 0) σ 0 [(0, .ref (x0)), (1, .ref (x1)), (2, .long (x2)), (4, .int (x4))] []
  unfold fX12_namesSide at hf
  refine x_lload_n C dX12_namesSide_0 1 rfl 2 rfl rfl ?_
  obtain ⟨w1, hw1, hf⟩ := x_bind hf
  refine x_callSi C dX12_namesSide_1 4 rfl (cX12_lengthc hw1) kX12_length ksX12_length w1728 ⟨rfl, rfl⟩ ⟨Nat.le_of_ble_eq_true rfl, Nat.le_of_ble_eq_true rfl⟩ ⟨Nat.zero_le _, Nat.zero_le _⟩ rfl rfl (Nat.le_of_ble_eq_true rfl) ?_
  refine x_istore C dX12_namesSide_4 6 rfl rfl [(5, .int (w1)), (0, .ref (x0)), (1, .ref (x1)), (2, .long (x2)), (4, .int (x4))] rfl ?_
  refine x_iconst C dX12_namesSide_6 7 rfl 0 (by decide) ?_
  refine x_istore C dX12_namesSide_7 9 rfl rfl [(6, .int (0)), (5, .int (w1)), (0, .ref (x0)), (1, .ref (x1)), (2, .long (x2)), (4, .int (x4))] rfl ?_
  obtain ⟨b9, hb9, hf⟩ := x_bind hf
  refine x_lv [2, 3, 4, 5, 1, 0] (lv' := [(0, .ref (x0)), (1, .ref (x1)), (2, .long (x2)), (4, .int (x4)), (5, .int (w1)), (6, .int (0))]) rfl ?_
  refine lpX12_namesSide_9 C hb9 (fun s9 e9 => ?_)
  subst e9
  exact x_vret C (hE _ (Option.some.inj hf).symm) dX12_namesSide_137
theorem dX12_laysHead_0 : decode cX12_laysHead 0 = .ok (.iconst 0, 1) := by decide +kernel
theorem dX12_laysHead_1 : decode cX12_laysHead 1 = .ok (.istore 4, 2) := by decide +kernel
theorem dX12_laysHead_3 : decode cX12_laysHead 3 = .ok (.iload 4, 2) := by decide +kernel
theorem dX12_laysHead_5 : decode cX12_laysHead 5 = .ok (.iconst 5, 1) := by decide +kernel
theorem dX12_laysHead_6 : decode cX12_laysHead 6 = .ok (.if_icmp .ge 17, 3) := by decide +kernel
theorem dX12_laysHead_9 : decode cX12_laysHead 9 = .ok (.aload_n 0, 1) := by decide +kernel
theorem dX12_laysHead_10 : decode cX12_laysHead 10 = .ok (.getfield 55, 3) := by decide +kernel
theorem dX12_laysHead_13 : decode cX12_laysHead 13 = .ok (.iload 4, 2) := by decide +kernel
theorem dX12_laysHead_15 : decode cX12_laysHead 15 = .ok (.iconst (-1), 1) := by decide +kernel
theorem dX12_laysHead_16 : decode cX12_laysHead 16 = .ok (.iastore, 1) := by decide +kernel
theorem dX12_laysHead_17 : decode cX12_laysHead 17 = .ok (.iinc 4 1, 3) := by decide +kernel
theorem dX12_laysHead_20 : decode cX12_laysHead 20 = .ok (.goto (-17), 3) := by decide +kernel
theorem dX12_laysHead_23 : decode cX12_laysHead 23 = .ok (.aload_n 0, 1) := by decide +kernel
theorem dX12_laysHead_24 : decode cX12_laysHead 24 = .ok (.iconst 0, 1) := by decide +kernel
theorem dX12_laysHead_25 : decode cX12_laysHead 25 = .ok (.putfield 496, 3) := by decide +kernel
theorem dX12_laysHead_28 : decode cX12_laysHead 28 = .ok (.aload_n 0, 1) := by decide +kernel
theorem dX12_laysHead_29 : decode cX12_laysHead 29 = .ok (.aload_n 1, 1) := by decide +kernel
theorem dX12_laysHead_30 : decode cX12_laysHead 30 = .ok (.aload_n 0, 1) := by decide +kernel
theorem dX12_laysHead_31 : decode cX12_laysHead 31 = .ok (.iload_n 2, 1) := by decide +kernel
theorem dX12_laysHead_32 : decode cX12_laysHead 32 = .ok (.invokevirtual 285, 3) := by decide +kernel
theorem dX12_laysHead_35 : decode cX12_laysHead 35 = .ok (.iload_n 3, 1) := by decide +kernel
theorem dX12_laysHead_36 : decode cX12_laysHead 36 = .ok (.invokevirtual 499, 3) := by decide +kernel
theorem dX12_laysHead_39 : decode cX12_laysHead 39 = .ok (.aload_n 0, 1) := by decide +kernel
theorem dX12_laysHead_40 : decode cX12_laysHead 40 = .ok (.aload_n 1, 1) := by decide +kernel
theorem dX12_laysHead_41 : decode cX12_laysHead 41 = .ok (.aload_n 0, 1) := by decide +kernel
theorem dX12_laysHead_42 : decode cX12_laysHead 42 = .ok (.iload_n 2, 1) := by decide +kernel
theorem dX12_laysHead_43 : decode cX12_laysHead 43 = .ok (.invokevirtual 288, 3) := by decide +kernel
theorem dX12_laysHead_46 : decode cX12_laysHead 46 = .ok (.iload_n 3, 1) := by decide +kernel
theorem dX12_laysHead_47 : decode cX12_laysHead 47 = .ok (.invokevirtual 499, 3) := by decide +kernel
theorem dX12_laysHead_50 : decode cX12_laysHead 50 = .ok (.return_, 1) := by decide +kernel
abbrev rmX12_laysHead : Room := { frames := 4, cells := 0, slots := 0, locals := 98 }
noncomputable def fLX12_laysHead_3 (x0 : Nat) (x1 : Nat) (x2 : Int32) (x3 : Int32) (a : Int32 × St) : Option ((Int32 × St) ⊕ (St)) :=
if ((5 : Int32)) ≤ a.1 then
(some (Sum.inr a.2))
else
((gR a.2 x0 11 36).bind fun v10 =>
(sI a.2 v10 a.1 (-1)).bind fun σ16 =>
xlet (a.1 + 1) fun v17 =>
some (Sum.inl (v17, σ16)))
set_option maxHeartbeats 4000000 in
set_option maxRecDepth 100000 in
theorem lpX12_laysHead_3 {X : xX} {x0 : Nat} {x1 : Nat} {x2 : Int32} {x3 : Int32}  {a0 : Int32 × St} {b : St} (C : Ok X cX12_laysHead 5 RX12 rmX12_laysHead none) (hb : iterP (fLX12_laysHead_3 x0 x1 x2 x3) a0 = some b) (hy0 : ∀ s, b = s → V X (0, 0) s 23 [(0, .ref (x0)), (1, .ref (x1)), (2, .int (x2)), (3, .int (x3))] []) : V X (0, 0) a0.2 3 [(0, .ref (x0)), (1, .ref (x1)), (2, .int (x2)), (3, .int (x3)), (4, .int (a0.1))] [] := by
  obtain ⟨n, hn⟩ := iterP_some hb
  refine x_loop (P := fun a => V X (0, 0) a.2 3 [(0, .ref (x0)), (1, .ref (x1)), (2, .int (x2)), (3, .int (x3)), (4, .int (a.1))] []) ?_ n a0 hn
  intro a c hf hK hxx
  have hx0 : ∀ s, c = Sum.inr s → V X (0, 0) s 23 [(0, .ref (x0)), (1, .ref (x1)), (2, .int (x2)), (3, .int (x3))] [] := fun s e => hy0 s (hxx _ e).symm
  unfold fLX12_laysHead_3 at hf
  refine x_iload C dX12_laysHead_3 5 rfl 4 rfl ?_
  refine x_iconst C dX12_laysHead_5 6 rfl 5 (by decide) ?_
  refine x_icmp_ge C dX12_laysHead_6 23 (by decide) 9 rfl (fun hc => ?_) (fun hc => ?_)
  · have hf := (if_pos hc).symm.trans hf
    refine x_lv [0, 1, 2, 3] (lv' := [(0, .ref (x0)), (1, .ref (x1)), (2, .int (x2)), (3, .int (x3))]) rfl ?_
    exact hx0 _ (Option.some.inj hf).symm
  · have hf := (if_neg hc).symm.trans hf
    refine x_aload_n C dX12_laysHead_9 10 rfl 0 rfl rfl ?_
    obtain ⟨v10, hv10, hf⟩ := x_bind hf
    refine x_getR C dX12_laysHead_10 13 rfl hv10 cl11 rfl w1479 ?_
    refine x_iload C dX12_laysHead_13 15 rfl 4 rfl ?_
    refine x_iconst C dX12_laysHead_15 16 rfl (-1) (by decide) ?_
    obtain ⟨σ16, hσ16, hf⟩ := x_bind hf
    refine x_iastore C dX12_laysHead_16 17 rfl hσ16 ?_
    obtain ⟨v17, ev17, hf⟩ := xlet_some hf
    refine x_iinc C dX12_laysHead_17 20 rfl 4 rfl v17 ev17 rfl [(4, .int (v17)), (0, .ref (x0)), (1, .ref (x1)), (2, .int (x2)), (3, .int (x3))] rfl ?_
    refine x_goto C dX12_laysHead_20 3 (by decide) ?_
    refine x_lv [1, 2, 3, 4, 0] (lv' := [(0, .ref (x0)), (1, .ref (x1)), (2, .int (x2)), (3, .int (x3)), (4, .int (v17))]) rfl ?_
    exact hK _ (Option.some.inj hf).symm
noncomputable def fX12_laysHead (σ : St) (x0 : Nat) (x1 : Nat) (x2 : Int32) (x3 : Int32) : Option (St) :=
(iterP (fLX12_laysHead_3 x0 x1 x2 x3) (0, σ)).bind fun b3 =>
(wrF b3 x0 11 39 (.int (0))).bind fun σ25 =>
(isO σ25 x0 11).bind fun _ =>
(fX12_leftOf σ25 x0 x2).bind fun w32 =>
(isO σ25 x0 11).bind fun _ =>
(fX12_namesSide σ25 x0 x1 w32 x3).bind fun w36 =>
(isO w36 x0 11).bind fun _ =>
(fX12_rightOf w36 x0 x2).bind fun w43 =>
(isO w36 x0 11).bind fun _ =>
(fX12_namesSide w36 x0 x1 w43 x3).bind fun w47 =>
some w47
set_option maxHeartbeats 4000000 in
set_option maxRecDepth 100000 in
theorem cX12_laysHeadc {l : Launch} {G : xG} {A : Nat → Prop} {σ : St} {x0 : Nat} {x1 : Nat} {x2 : Int32} {x3 : Int32} {c : St} (hf : fX12_laysHead σ x0 x1 x2 x3 = some c) : Con l yX12_laysHead (xws yX12_laysHead cX12_laysHead 5 none) rmX12_laysHead [.ref (x0), .ref (x1), .int (x2), .int (x3)] G A σ none c := by
  refine x_start rfl (Nat.le_of_ble_eq_true rfl) (fun X _ _ _ C hE0 => ?_)
  have hE : ∀ r, c = r → xE1 X none r := fun r e => e ▸ hE0
  show V X (0, 0) σ 0 [(0, .ref (x0)), (1, .ref (x1)), (2, .int (x2)), (3, .int (x3))] []
  unfold fX12_laysHead at hf
  refine x_iconst C dX12_laysHead_0 1 rfl 0 (by decide) ?_
  refine x_istore C dX12_laysHead_1 3 rfl rfl [(4, .int (0)), (0, .ref (x0)), (1, .ref (x1)), (2, .int (x2)), (3, .int (x3))] rfl ?_
  obtain ⟨b3, hb3, hf⟩ := x_bind hf
  refine x_lv [1, 2, 3, 4, 0] (lv' := [(0, .ref (x0)), (1, .ref (x1)), (2, .int (x2)), (3, .int (x3)), (4, .int (0))]) rfl ?_
  refine lpX12_laysHead_3 C hb3 (fun s3 e3 => ?_)
  subst e3
  refine x_aload_n C dX12_laysHead_23 24 rfl 0 rfl rfl ?_
  refine x_iconst C dX12_laysHead_24 25 rfl 0 (by decide) ?_
  obtain ⟨σ25, hσ25, hf⟩ := x_bind hf
  refine x_putX C dX12_laysHead_25 28 rfl hσ25 cl11 rfl w1482 rfl rfl rfl ?_
  refine x_aload_n C dX12_laysHead_28 29 rfl 0 rfl rfl ?_
  refine x_aload_n C dX12_laysHead_29 30 rfl 1 rfl rfl ?_
  refine x_aload_n C dX12_laysHead_30 31 rfl 0 rfl rfl ?_
  refine x_iload_n C dX12_laysHead_31 32 rfl 2 rfl rfl ?_
  obtain ⟨o32, ho32, hf⟩ := x_bind hf
  obtain ⟨w32, hw32, hf⟩ := x_bind hf
  refine x_callVl C dX12_laysHead_32 35 rfl ho32 cl11.1 rfl (cX12_leftOfc hw32) kX12_leftOf kvX12_leftOf w1752 ⟨rfl, rfl⟩ ⟨Nat.le_of_ble_eq_true rfl, Nat.le_of_ble_eq_true rfl⟩ ⟨Nat.zero_le _, Nat.zero_le _⟩ rfl rfl (Nat.le_of_ble_eq_true rfl) ?_
  refine x_iload_n C dX12_laysHead_35 36 rfl 3 rfl rfl ?_
  obtain ⟨o36, ho36, hf⟩ := x_bind hf
  obtain ⟨w36, hw36, hf⟩ := x_bind hf
  refine x_callVv C dX12_laysHead_36 39 rfl ho36 cl11.1 rfl (cX12_namesSidec hw36) kX12_namesSide kvX12_namesSide w2089 ⟨rfl, rfl⟩ ⟨Nat.le_of_ble_eq_true rfl, Nat.le_of_ble_eq_true rfl⟩ ⟨Nat.zero_le _, Nat.zero_le _⟩ rfl rfl (Nat.le_of_ble_eq_true rfl) ?_
  refine x_aload_n C dX12_laysHead_39 40 rfl 0 rfl rfl ?_
  refine x_aload_n C dX12_laysHead_40 41 rfl 1 rfl rfl ?_
  refine x_aload_n C dX12_laysHead_41 42 rfl 0 rfl rfl ?_
  refine x_iload_n C dX12_laysHead_42 43 rfl 2 rfl rfl ?_
  obtain ⟨o43, ho43, hf⟩ := x_bind hf
  obtain ⟨w43, hw43, hf⟩ := x_bind hf
  refine x_callVl C dX12_laysHead_43 46 rfl ho43 cl11.1 rfl (cX12_rightOfc hw43) kX12_rightOf kvX12_rightOf w1756 ⟨rfl, rfl⟩ ⟨Nat.le_of_ble_eq_true rfl, Nat.le_of_ble_eq_true rfl⟩ ⟨Nat.zero_le _, Nat.zero_le _⟩ rfl rfl (Nat.le_of_ble_eq_true rfl) ?_
  refine x_iload_n C dX12_laysHead_46 47 rfl 3 rfl rfl ?_
  obtain ⟨o47, ho47, hf⟩ := x_bind hf
  obtain ⟨w47, hw47, hf⟩ := x_bind hf
  refine x_callVv C dX12_laysHead_47 50 rfl ho47 cl11.1 rfl (cX12_namesSidec hw47) kX12_namesSide kvX12_namesSide w2089 ⟨rfl, rfl⟩ ⟨Nat.le_of_ble_eq_true rfl, Nat.le_of_ble_eq_true rfl⟩ ⟨Nat.zero_le _, Nat.zero_le _⟩ rfl rfl (Nat.le_of_ble_eq_true rfl) ?_
  exact x_vret C (hE _ (Option.some.inj hf).symm) dX12_laysHead_50
theorem dX12_head_0 : decode cX12_head 0 = .ok (.aload_n 0, 1) := by decide +kernel
theorem dX12_head_1 : decode cX12_head 1 = .ok (.iconst 0, 1) := by decide +kernel
theorem dX12_head_2 : decode cX12_head 2 = .ok (.putfield 1, 3) := by decide +kernel
theorem dX12_head_5 : decode cX12_head 5 = .ok (.aload_n 0, 1) := by decide +kernel
theorem dX12_head_6 : decode cX12_head 6 = .ok (.aload_n 0, 1) := by decide +kernel
theorem dX12_head_7 : decode cX12_head 7 = .ok (.iload_n 1, 1) := by decide +kernel
theorem dX12_head_8 : decode cX12_head 8 = .ok (.invokevirtual 422, 3) := by decide +kernel
theorem dX12_head_11 : decode cX12_head 11 = .ok (.ifCond .eq 11, 3) := by decide +kernel
theorem dX12_head_14 : decode cX12_head 14 = .ok (.iload_n 3, 1) := by decide +kernel
theorem dX12_head_15 : decode cX12_head 15 = .ok (.ifCond .lt 7, 3) := by decide +kernel
theorem dX12_head_18 : decode cX12_head 18 = .ok (.iconst 1, 1) := by decide +kernel
theorem dX12_head_19 : decode cX12_head 19 = .ok (.goto 4, 3) := by decide +kernel
theorem dX12_head_22 : decode cX12_head 22 = .ok (.iconst 0, 1) := by decide +kernel
theorem dX12_head_23 : decode cX12_head 23 = .ok (.iconst 1, 1) := by decide +kernel
theorem dX12_head_24 : decode cX12_head 24 = .ok (.invokevirtual 265, 3) := by decide +kernel
theorem dX12_head_27 : decode cX12_head 27 = .ok (.ifCond .ne 5, 3) := by decide +kernel
theorem dX12_head_30 : decode cX12_head 30 = .ok (.iconst 0, 1) := by decide +kernel
theorem dX12_head_31 : decode cX12_head 31 = .ok (.ireturn, 1) := by decide +kernel
theorem dX12_head_32 : decode cX12_head 32 = .ok (.aload_n 0, 1) := by decide +kernel
theorem dX12_head_33 : decode cX12_head 33 = .ok (.aload_n 0, 1) := by decide +kernel
theorem dX12_head_34 : decode cX12_head 34 = .ok (.getfield 58, 3) := by decide +kernel
theorem dX12_head_37 : decode cX12_head 37 = .ok (.iload_n 1, 1) := by decide +kernel
theorem dX12_head_38 : decode cX12_head 38 = .ok (.iconst 0, 1) := by decide +kernel
theorem dX12_head_39 : decode cX12_head 39 = .ok (.invokevirtual 503, 3) := by decide +kernel
theorem dX12_head_42 : decode cX12_head 42 = .ok (.aload_n 0, 1) := by decide +kernel
theorem dX12_head_43 : decode cX12_head 43 = .ok (.aload_n 0, 1) := by decide +kernel
theorem dX12_head_44 : decode cX12_head 44 = .ok (.getfield 61, 3) := by decide +kernel
theorem dX12_head_47 : decode cX12_head 47 = .ok (.iload_n 1, 1) := by decide +kernel
theorem dX12_head_48 : decode cX12_head 48 = .ok (.iconst 1, 1) := by decide +kernel
theorem dX12_head_49 : decode cX12_head 49 = .ok (.invokevirtual 503, 3) := by decide +kernel
theorem dX12_head_52 : decode cX12_head 52 = .ok (.iconst 0, 1) := by decide +kernel
theorem dX12_head_53 : decode cX12_head 53 = .ok (.istore 4, 2) := by decide +kernel
theorem dX12_head_55 : decode cX12_head 55 = .ok (.iload 4, 2) := by decide +kernel
theorem dX12_head_57 : decode cX12_head 57 = .ok (.aload_n 0, 1) := by decide +kernel
theorem dX12_head_58 : decode cX12_head 58 = .ok (.getfield 496, 3) := by decide +kernel
theorem dX12_head_61 : decode cX12_head 61 = .ok (.if_icmp .ge 26, 3) := by decide +kernel
theorem dX12_head_64 : decode cX12_head 64 = .ok (.aload_n 0, 1) := by decide +kernel
theorem dX12_head_65 : decode cX12_head 65 = .ok (.getfield 58, 3) := by decide +kernel
theorem dX12_head_68 : decode cX12_head 68 = .ok (.iload 4, 2) := by decide +kernel
theorem dX12_head_70 : decode cX12_head 70 = .ok (.iaload, 1) := by decide +kernel
theorem dX12_head_71 : decode cX12_head 71 = .ok (.aload_n 0, 1) := by decide +kernel
theorem dX12_head_72 : decode cX12_head 72 = .ok (.getfield 61, 3) := by decide +kernel
theorem dX12_head_75 : decode cX12_head 75 = .ok (.iload 4, 2) := by decide +kernel
theorem dX12_head_77 : decode cX12_head 77 = .ok (.iaload, 1) := by decide +kernel
theorem dX12_head_78 : decode cX12_head 78 = .ok (.if_icmp .ne 9, 3) := by decide +kernel
theorem dX12_head_81 : decode cX12_head 81 = .ok (.iinc 4 1, 3) := by decide +kernel
theorem dX12_head_84 : decode cX12_head 84 = .ok (.goto (-29), 3) := by decide +kernel
theorem dX12_head_87 : decode cX12_head 87 = .ok (.iload_n 2, 1) := by decide +kernel
theorem dX12_head_88 : decode cX12_head 88 = .ok (.ifCond .eq 14, 3) := by decide +kernel
theorem dX12_head_91 : decode cX12_head 91 = .ok (.aload_n 0, 1) := by decide +kernel
theorem dX12_head_92 : decode cX12_head 92 = .ok (.iload_n 1, 1) := by decide +kernel
theorem dX12_head_93 : decode cX12_head 93 = .ok (.invokevirtual 285, 3) := by decide +kernel
theorem dX12_head_96 : decode cX12_head 96 = .ok (.invokestatic 136, 3) := by decide +kernel
theorem dX12_head_99 : decode cX12_head 99 = .ok (.goto 4, 3) := by decide +kernel
theorem dX12_head_102 : decode cX12_head 102 = .ok (.iconst 0, 1) := by decide +kernel
theorem dX12_head_103 : decode cX12_head 103 = .ok (.istore 5, 2) := by decide +kernel
theorem dX12_head_105 : decode cX12_head 105 = .ok (.iload_n 3, 1) := by decide +kernel
theorem dX12_head_106 : decode cX12_head 106 = .ok (.iload_n 2, 1) := by decide +kernel
theorem dX12_head_107 : decode cX12_head 107 = .ok (.ifCond .eq 11, 3) := by decide +kernel
theorem dX12_head_110 : decode cX12_head 110 = .ok (.aload_n 0, 1) := by decide +kernel
theorem dX12_head_111 : decode cX12_head 111 = .ok (.iload_n 1, 1) := by decide +kernel
theorem dX12_head_112 : decode cX12_head 112 = .ok (.invokevirtual 288, 3) := by decide +kernel
theorem dX12_head_115 : decode cX12_head 115 = .ok (.goto 8, 3) := by decide +kernel
theorem dX12_head_118 : decode cX12_head 118 = .ok (.aload_n 0, 1) := by decide +kernel
theorem dX12_head_119 : decode cX12_head 119 = .ok (.iload_n 1, 1) := by decide +kernel
theorem dX12_head_120 : decode cX12_head 120 = .ok (.invokevirtual 285, 3) := by decide +kernel
theorem dX12_head_123 : decode cX12_head 123 = .ok (.invokestatic 136, 3) := by decide +kernel
theorem dX12_head_126 : decode cX12_head 126 = .ok (.if_icmp .lt 5, 3) := by decide +kernel
theorem dX12_head_129 : decode cX12_head 129 = .ok (.iconst (-1), 1) := by decide +kernel
theorem dX12_head_130 : decode cX12_head 130 = .ok (.ireturn, 1) := by decide +kernel
theorem dX12_head_131 : decode cX12_head 131 = .ok (.iload 4, 2) := by decide +kernel
theorem dX12_head_133 : decode cX12_head 133 = .ok (.aload_n 0, 1) := by decide +kernel
theorem dX12_head_134 : decode cX12_head 134 = .ok (.getfield 496, 3) := by decide +kernel
theorem dX12_head_137 : decode cX12_head 137 = .ok (.if_icmp .ge 32, 3) := by decide +kernel
theorem dX12_head_140 : decode cX12_head 140 = .ok (.aload_n 0, 1) := by decide +kernel
theorem dX12_head_141 : decode cX12_head 141 = .ok (.getfield 61, 3) := by decide +kernel
theorem dX12_head_144 : decode cX12_head 144 = .ok (.iload 4, 2) := by decide +kernel
theorem dX12_head_146 : decode cX12_head 146 = .ok (.iaload, 1) := by decide +kernel
theorem dX12_head_147 : decode cX12_head 147 = .ok (.aload_n 0, 1) := by decide +kernel
theorem dX12_head_148 : decode cX12_head 148 = .ok (.getfield 58, 3) := by decide +kernel
theorem dX12_head_151 : decode cX12_head 151 = .ok (.iload 4, 2) := by decide +kernel
theorem dX12_head_153 : decode cX12_head 153 = .ok (.iaload, 1) := by decide +kernel
theorem dX12_head_154 : decode cX12_head 154 = .ok (.if_icmp .ge 15, 3) := by decide +kernel
theorem dX12_head_157 : decode cX12_head 157 = .ok (.aload_n 0, 1) := by decide +kernel
theorem dX12_head_158 : decode cX12_head 158 = .ok (.getfield 61, 3) := by decide +kernel
theorem dX12_head_161 : decode cX12_head 161 = .ok (.iload 5, 2) := by decide +kernel
theorem dX12_head_163 : decode cX12_head 163 = .ok (.iload_n 3, 1) := by decide +kernel
theorem dX12_head_164 : decode cX12_head 164 = .ok (.iadd, 1) := by decide +kernel
theorem dX12_head_165 : decode cX12_head 165 = .ok (.iaload, 1) := by decide +kernel
theorem dX12_head_166 : decode cX12_head 166 = .ok (.goto 12, 3) := by decide +kernel
theorem dX12_head_169 : decode cX12_head 169 = .ok (.aload_n 0, 1) := by decide +kernel
theorem dX12_head_170 : decode cX12_head 170 = .ok (.getfield 58, 3) := by decide +kernel
theorem dX12_head_173 : decode cX12_head 173 = .ok (.iload 5, 2) := by decide +kernel
theorem dX12_head_175 : decode cX12_head 175 = .ok (.iload_n 3, 1) := by decide +kernel
theorem dX12_head_176 : decode cX12_head 176 = .ok (.iadd, 1) := by decide +kernel
theorem dX12_head_177 : decode cX12_head 177 = .ok (.iaload, 1) := by decide +kernel
theorem dX12_head_178 : decode cX12_head 178 = .ok (.ireturn, 1) := by decide +kernel
abbrev rmX12_head : Room := { frames := 5, cells := 0, slots := 0, locals := 122 }
noncomputable def fLX12_head_55 (σ : St) (x0 : Nat) (x1 : Int32) (x2 : Int32) (x3 : Int32) (a : Int32) : Option ((Int32) ⊕ (Int32)) :=
(gI σ x0 11 39).bind fun v58 =>
if v58 ≤ a then
(some (Sum.inr a))
else
((gR σ x0 11 37).bind fun v65 =>
(aI σ v65 0 a).bind fun v70 =>
(gR σ x0 11 38).bind fun v72 =>
(aI σ v72 0 a).bind fun v77 =>
if v70 = v77 then
(xlet (a + 1) fun v81 =>
some (Sum.inl v81))
else
(some (Sum.inr a)))
set_option maxHeartbeats 4000000 in
set_option maxRecDepth 100000 in
theorem lpX12_head_55 {X : xX} {σ : St} {x0 : Nat} {x1 : Int32} {x2 : Int32} {x3 : Int32}  {a0 : Int32} {b : Int32} (C : Ok X cX12_head 6 RX12 rmX12_head (some .int)) (hb : iterP (fLX12_head_55 σ x0 x1 x2 x3) a0 = some b) (hy0 : ∀ s, b = s → V X (0, 0) σ 87 [(0, .ref (x0)), (1, .int (x1)), (2, .int (x2)), (3, .int (x3)), (4, .int (s))] []) : V X (0, 0) σ 55 [(0, .ref (x0)), (1, .int (x1)), (2, .int (x2)), (3, .int (x3)), (4, .int (a0))] [] := by
  obtain ⟨n, hn⟩ := iterP_some hb
  refine x_loop (P := fun a => V X (0, 0) σ 55 [(0, .ref (x0)), (1, .int (x1)), (2, .int (x2)), (3, .int (x3)), (4, .int (a))] []) ?_ n a0 hn
  intro a c hf hK hxx
  have hx0 : ∀ s, c = Sum.inr s → V X (0, 0) σ 87 [(0, .ref (x0)), (1, .int (x1)), (2, .int (x2)), (3, .int (x3)), (4, .int (s))] [] := fun s e => hy0 s (hxx _ e).symm
  unfold fLX12_head_55 at hf
  refine x_iload C dX12_head_55 57 rfl 4 rfl ?_
  refine x_aload_n C dX12_head_57 58 rfl 0 rfl rfl ?_
  obtain ⟨v58, hv58, hf⟩ := x_bind hf
  refine x_getI C dX12_head_58 61 rfl hv58 cl11 rfl w1482 ?_
  refine x_icmp_ge C dX12_head_61 87 (by decide) 64 rfl (fun hc => ?_) (fun hc => ?_)
  · have hf := (if_pos hc).symm.trans hf
    exact hx0 _ (Option.some.inj hf).symm
  · have hf := (if_neg hc).symm.trans hf
    refine x_aload_n C dX12_head_64 65 rfl 0 rfl rfl ?_
    obtain ⟨v65, hv65, hf⟩ := x_bind hf
    refine x_getR C dX12_head_65 68 rfl hv65 cl11 rfl w1480 ?_
    refine x_iload C dX12_head_68 70 rfl 4 rfl ?_
    obtain ⟨v70, hv70, hf⟩ := x_bind hf
    refine x_iaload C dX12_head_70 71 rfl hv70 ?_
    refine x_aload_n C dX12_head_71 72 rfl 0 rfl rfl ?_
    obtain ⟨v72, hv72, hf⟩ := x_bind hf
    refine x_getR C dX12_head_72 75 rfl hv72 cl11 rfl w1481 ?_
    refine x_iload C dX12_head_75 77 rfl 4 rfl ?_
    obtain ⟨v77, hv77, hf⟩ := x_bind hf
    refine x_iaload C dX12_head_77 78 rfl hv77 ?_
    refine x_icmp_ne C dX12_head_78 87 (by decide) 81 rfl (fun hc => ?_) (fun hc => ?_)
    · have hf := (if_neg hc).symm.trans hf
      exact hx0 _ (Option.some.inj hf).symm
    · have hf := (if_pos hc).symm.trans hf
      obtain ⟨v81, ev81, hf⟩ := xlet_some hf
      refine x_iinc C dX12_head_81 84 rfl 4 rfl v81 ev81 rfl [(4, .int (v81)), (0, .ref (x0)), (1, .int (x1)), (2, .int (x2)), (3, .int (x3))] rfl ?_
      refine x_goto C dX12_head_84 55 (by decide) ?_
      refine x_lv [1, 2, 3, 4, 0] (lv' := [(0, .ref (x0)), (1, .int (x1)), (2, .int (x2)), (3, .int (x3)), (4, .int (v81))]) rfl ?_
      exact hK _ (Option.some.inj hf).symm
noncomputable def fJX12_head_m_123 (σ : St) (x0 : Nat) (x3 : Int32) (x4 : Int32) (x5 : Int32) (t0 : Int64) (t1 : Int32) : Option ((Int32 × St)) :=
(fX12_length t0).bind fun w123 =>
if t1 < w123 then
((gI σ x0 11 39).bind fun v134 =>
if v134 ≤ x4 then
((gR σ x0 11 37).bind fun v170 =>
(aI σ v170 0 (x5 + x3)).bind fun v177 =>
some (v177, σ))
else
((gR σ x0 11 38).bind fun v141 =>
(aI σ v141 0 x4).bind fun v146 =>
(gR σ x0 11 37).bind fun v148 =>
(aI σ v148 0 x4).bind fun v153 =>
if v153 ≤ v146 then
((gR σ x0 11 37).bind fun v170 =>
(aI σ v170 0 (x5 + x3)).bind fun v177 =>
some (v177, σ))
else
((gR σ x0 11 38).bind fun v158 =>
(aI σ v158 0 (x5 + x3)).bind fun v165 =>
some (v165, σ))))
else
(some ((-1), σ))
set_option maxHeartbeats 4000000 in
set_option maxRecDepth 100000 in
theorem jnX12_head_m_123 {X : xX} {σ : St} {x0 : Nat} {x3 : Int32} {x4 : Int32} {x5 : Int32} {t0 : Int64} {t1 : Int32}  {c : (Int32 × St)} (C : Ok X cX12_head 6 RX12 rmX12_head (some .int)) (hf : fJX12_head_m_123 σ x0 x3 x4 x5 t0 t1 = some c) (hE : ∀ r, c = r → xE1 X (some (.int r.1)) r.2) : V X (0, 0) σ 123 [(0, .ref (x0)), (3, .int (x3)), (4, .int (x4)), (5, .int (x5))] [.long (t0), .int (t1)] := by
  unfold fJX12_head_m_123 at hf
  obtain ⟨w123, hw123, hf⟩ := x_bind hf
  refine x_callSi C dX12_head_123 126 rfl (cX12_lengthc hw123) kX12_length ksX12_length w1728 ⟨rfl, rfl⟩ ⟨Nat.le_of_ble_eq_true rfl, Nat.le_of_ble_eq_true rfl⟩ ⟨Nat.zero_le _, Nat.zero_le _⟩ rfl rfl (Nat.le_of_ble_eq_true rfl) ?_
  refine x_icmp_lt C dX12_head_126 131 (by decide) 129 rfl (fun hc => ?_) (fun hc => ?_)
  · have hf := (if_pos hc).symm.trans hf
    refine x_iload C dX12_head_131 133 rfl 2 rfl ?_
    refine x_aload_n C dX12_head_133 134 rfl 0 rfl rfl ?_
    obtain ⟨v134, hv134, hf⟩ := x_bind hf
    refine x_getI C dX12_head_134 137 rfl hv134 cl11 rfl w1482 ?_
    refine x_icmp_ge C dX12_head_137 169 (by decide) 140 rfl (fun hc => ?_) (fun hc => ?_)
    · have hf := (if_pos hc).symm.trans hf
      refine x_aload_n C dX12_head_169 170 rfl 0 rfl rfl ?_
      obtain ⟨v170, hv170, hf⟩ := x_bind hf
      refine x_getR C dX12_head_170 173 rfl hv170 cl11 rfl w1480 ?_
      refine x_iload C dX12_head_173 175 rfl 3 rfl ?_
      refine x_iload_n C dX12_head_175 176 rfl 1 rfl rfl ?_
      refine x_iadd C dX12_head_176 177 rfl ?_
      obtain ⟨v177, hv177, hf⟩ := x_bind hf
      refine x_iaload C dX12_head_177 178 rfl hv177 ?_
      exact x_iret C (hE _ (Option.some.inj hf).symm) dX12_head_178
    · have hf := (if_neg hc).symm.trans hf
      refine x_aload_n C dX12_head_140 141 rfl 0 rfl rfl ?_
      obtain ⟨v141, hv141, hf⟩ := x_bind hf
      refine x_getR C dX12_head_141 144 rfl hv141 cl11 rfl w1481 ?_
      refine x_iload C dX12_head_144 146 rfl 2 rfl ?_
      obtain ⟨v146, hv146, hf⟩ := x_bind hf
      refine x_iaload C dX12_head_146 147 rfl hv146 ?_
      refine x_aload_n C dX12_head_147 148 rfl 0 rfl rfl ?_
      obtain ⟨v148, hv148, hf⟩ := x_bind hf
      refine x_getR C dX12_head_148 151 rfl hv148 cl11 rfl w1480 ?_
      refine x_iload C dX12_head_151 153 rfl 2 rfl ?_
      obtain ⟨v153, hv153, hf⟩ := x_bind hf
      refine x_iaload C dX12_head_153 154 rfl hv153 ?_
      refine x_icmp_ge C dX12_head_154 169 (by decide) 157 rfl (fun hc => ?_) (fun hc => ?_)
      · have hf := (if_pos hc).symm.trans hf
        refine x_aload_n C dX12_head_169 170 rfl 0 rfl rfl ?_
        obtain ⟨v170, hv170, hf⟩ := x_bind hf
        refine x_getR C dX12_head_170 173 rfl hv170 cl11 rfl w1480 ?_
        refine x_iload C dX12_head_173 175 rfl 3 rfl ?_
        refine x_iload_n C dX12_head_175 176 rfl 1 rfl rfl ?_
        refine x_iadd C dX12_head_176 177 rfl ?_
        obtain ⟨v177, hv177, hf⟩ := x_bind hf
        refine x_iaload C dX12_head_177 178 rfl hv177 ?_
        exact x_iret C (hE _ (Option.some.inj hf).symm) dX12_head_178
      · have hf := (if_neg hc).symm.trans hf
        refine x_aload_n C dX12_head_157 158 rfl 0 rfl rfl ?_
        obtain ⟨v158, hv158, hf⟩ := x_bind hf
        refine x_getR C dX12_head_158 161 rfl hv158 cl11 rfl w1481 ?_
        refine x_iload C dX12_head_161 163 rfl 3 rfl ?_
        refine x_iload_n C dX12_head_163 164 rfl 1 rfl rfl ?_
        refine x_iadd C dX12_head_164 165 rfl ?_
        obtain ⟨v165, hv165, hf⟩ := x_bind hf
        refine x_iaload C dX12_head_165 166 rfl hv165 ?_
        refine x_goto C dX12_head_166 178 (by decide) ?_
        exact x_iret C (hE _ (Option.some.inj hf).symm) dX12_head_178
  · have hf := (if_neg hc).symm.trans hf
    refine x_iconst C dX12_head_129 130 rfl (-1) (by decide) ?_
    exact x_iret C (hE _ (Option.some.inj hf).symm) dX12_head_130
noncomputable def fJX12_head_m_103 (σ : St) (x0 : Nat) (x1 : Int32) (x2 : Int32) (x3 : Int32) (x4 : Int32) (t0 : Int32) : Option ((Int32 × St)) :=
if x2 = 0 then
((isO σ x0 11).bind fun _ =>
(fX12_leftOf σ x0 x1).bind fun w120 =>
fJX12_head_m_123 σ x0 x3 x4 t0 w120 x3)
else
((isO σ x0 11).bind fun _ =>
(fX12_rightOf σ x0 x1).bind fun w112 =>
fJX12_head_m_123 σ x0 x3 x4 t0 w112 x3)
set_option maxHeartbeats 4000000 in
set_option maxRecDepth 100000 in
theorem jnX12_head_m_103 {X : xX} {σ : St} {x0 : Nat} {x1 : Int32} {x2 : Int32} {x3 : Int32} {x4 : Int32} {t0 : Int32}  {c : (Int32 × St)} (C : Ok X cX12_head 6 RX12 rmX12_head (some .int)) (hf : fJX12_head_m_103 σ x0 x1 x2 x3 x4 t0 = some c) (hE : ∀ r, c = r → xE1 X (some (.int r.1)) r.2) : V X (0, 0) σ 103 [(0, .ref (x0)), (1, .int (x1)), (2, .int (x2)), (3, .int (x3)), (4, .int (x4))] [.int (t0)] := by
  unfold fJX12_head_m_103 at hf
  refine x_istore C dX12_head_103 105 rfl rfl [(5, .int (t0)), (0, .ref (x0)), (1, .int (x1)), (2, .int (x2)), (3, .int (x3)), (4, .int (x4))] rfl ?_
  refine x_iload_n C dX12_head_105 106 rfl 4 rfl rfl ?_
  refine x_iload_n C dX12_head_106 107 rfl 3 rfl rfl ?_
  refine x_if_eq C dX12_head_107 118 (by decide) 110 rfl (fun hc => ?_) (fun hc => ?_)
  · have hf := (if_pos hc).symm.trans hf
    refine x_aload_n C dX12_head_118 119 rfl 1 rfl rfl ?_
    refine x_iload_n C dX12_head_119 120 rfl 2 rfl rfl ?_
    obtain ⟨o120, ho120, hf⟩ := x_bind hf
    obtain ⟨w120, hw120, hf⟩ := x_bind hf
    refine x_callVl C dX12_head_120 123 rfl ho120 cl11.1 rfl (cX12_leftOfc hw120) kX12_leftOf kvX12_leftOf w1752 ⟨rfl, rfl⟩ ⟨Nat.le_of_ble_eq_true rfl, Nat.le_of_ble_eq_true rfl⟩ ⟨Nat.zero_le _, Nat.zero_le _⟩ rfl rfl (Nat.le_of_ble_eq_true rfl) ?_
    refine x_lv [1, 4, 5, 0] (lv' := [(0, .ref (x0)), (3, .int (x3)), (4, .int (x4)), (5, .int (t0))]) rfl ?_
    exact jnX12_head_m_123 C hf hE
  · have hf := (if_neg hc).symm.trans hf
    refine x_aload_n C dX12_head_110 111 rfl 1 rfl rfl ?_
    refine x_iload_n C dX12_head_111 112 rfl 2 rfl rfl ?_
    obtain ⟨o112, ho112, hf⟩ := x_bind hf
    obtain ⟨w112, hw112, hf⟩ := x_bind hf
    refine x_callVl C dX12_head_112 115 rfl ho112 cl11.1 rfl (cX12_rightOfc hw112) kX12_rightOf kvX12_rightOf w1756 ⟨rfl, rfl⟩ ⟨Nat.le_of_ble_eq_true rfl, Nat.le_of_ble_eq_true rfl⟩ ⟨Nat.zero_le _, Nat.zero_le _⟩ rfl rfl (Nat.le_of_ble_eq_true rfl) ?_
    refine x_goto C dX12_head_115 123 (by decide) ?_
    refine x_lv [1, 4, 5, 0] (lv' := [(0, .ref (x0)), (3, .int (x3)), (4, .int (x4)), (5, .int (t0))]) rfl ?_
    exact jnX12_head_m_123 C hf hE
noncomputable def fJX12_head_m_87 (σ : St) (x0 : Nat) (x1 : Int32) (x2 : Int32) (x3 : Int32) (x4 : Int32)  : Option ((Int32 × St)) :=
if x2 = 0 then
(fJX12_head_m_103 σ x0 x1 x2 x3 x4 0)
else
((isO σ x0 11).bind fun _ =>
(fX12_leftOf σ x0 x1).bind fun w93 =>
(fX12_length w93).bind fun w96 =>
fJX12_head_m_103 σ x0 x1 x2 x3 x4 w96)
set_option maxHeartbeats 4000000 in
set_option maxRecDepth 100000 in
theorem jnX12_head_m_87 {X : xX} {σ : St} {x0 : Nat} {x1 : Int32} {x2 : Int32} {x3 : Int32} {x4 : Int32}   {c : (Int32 × St)} (C : Ok X cX12_head 6 RX12 rmX12_head (some .int)) (hf : fJX12_head_m_87 σ x0 x1 x2 x3 x4  = some c) (hE : ∀ r, c = r → xE1 X (some (.int r.1)) r.2) : V X (0, 0) σ 87 [(0, .ref (x0)), (1, .int (x1)), (2, .int (x2)), (3, .int (x3)), (4, .int (x4))] [] := by
  unfold fJX12_head_m_87 at hf
  refine x_iload_n C dX12_head_87 88 rfl 2 rfl rfl ?_
  refine x_if_eq C dX12_head_88 102 (by decide) 91 rfl (fun hc => ?_) (fun hc => ?_)
  · have hf := (if_pos hc).symm.trans hf
    refine x_iconst C dX12_head_102 103 rfl 0 (by decide) ?_
    exact jnX12_head_m_103 C hf hE
  · have hf := (if_neg hc).symm.trans hf
    refine x_aload_n C dX12_head_91 92 rfl 0 rfl rfl ?_
    refine x_iload_n C dX12_head_92 93 rfl 1 rfl rfl ?_
    obtain ⟨o93, ho93, hf⟩ := x_bind hf
    obtain ⟨w93, hw93, hf⟩ := x_bind hf
    refine x_callVl C dX12_head_93 96 rfl ho93 cl11.1 rfl (cX12_leftOfc hw93) kX12_leftOf kvX12_leftOf w1752 ⟨rfl, rfl⟩ ⟨Nat.le_of_ble_eq_true rfl, Nat.le_of_ble_eq_true rfl⟩ ⟨Nat.zero_le _, Nat.zero_le _⟩ rfl rfl (Nat.le_of_ble_eq_true rfl) ?_
    obtain ⟨w96, hw96, hf⟩ := x_bind hf
    refine x_callSi C dX12_head_96 99 rfl (cX12_lengthc hw96) kX12_length ksX12_length w1728 ⟨rfl, rfl⟩ ⟨Nat.le_of_ble_eq_true rfl, Nat.le_of_ble_eq_true rfl⟩ ⟨Nat.zero_le _, Nat.zero_le _⟩ rfl rfl (Nat.le_of_ble_eq_true rfl) ?_
    refine x_goto C dX12_head_99 103 (by decide) ?_
    exact jnX12_head_m_103 C hf hE
noncomputable def fJX12_head_m_23 (σ : St) (x0 : Nat) (x1 : Int32) (x2 : Int32) (x3 : Int32) (t0 : Int32) (t1 : Nat) : Option ((Int32 × St)) :=
(isO σ t1 11).bind fun _ =>
(fX12_right σ t1 t0 1).bind fun w24 =>
if w24.1 = 0 then
(some (0, w24.2))
else
((gR w24.2 x0 11 37).bind fun v34 =>
(isO w24.2 x0 11).bind fun _ =>
(fX12_laysHead w24.2 x0 v34 x1 0).bind fun w39 =>
(gR w39 x0 11 38).bind fun v44 =>
(isO w39 x0 11).bind fun _ =>
(fX12_laysHead w39 x0 v44 x1 1).bind fun w49 =>
(iterP (fLX12_head_55 w49 x0 x1 x2 x3) 0).bind fun b55 =>
fJX12_head_m_87 w49 x0 x1 x2 x3 b55)
set_option maxHeartbeats 4000000 in
set_option maxRecDepth 100000 in
theorem jnX12_head_m_23 {X : xX} {σ : St} {x0 : Nat} {x1 : Int32} {x2 : Int32} {x3 : Int32} {t0 : Int32} {t1 : Nat}  {c : (Int32 × St)} (C : Ok X cX12_head 6 RX12 rmX12_head (some .int)) (hf : fJX12_head_m_23 σ x0 x1 x2 x3 t0 t1 = some c) (hE : ∀ r, c = r → xE1 X (some (.int r.1)) r.2) : V X (0, 0) σ 23 [(0, .ref (x0)), (1, .int (x1)), (2, .int (x2)), (3, .int (x3))] [.int (t0), .ref (t1)] := by
  unfold fJX12_head_m_23 at hf
  refine x_iconst C dX12_head_23 24 rfl 1 (by decide) ?_
  obtain ⟨o24, ho24, hf⟩ := x_bind hf
  obtain ⟨w24, hw24, hf⟩ := x_bind hf
  refine x_callVi C dX12_head_24 27 rfl ho24 cl11.1 rfl (cX12_rightc hw24) kX12_right kvX12_right w1648 ⟨rfl, rfl⟩ ⟨Nat.le_of_ble_eq_true rfl, Nat.le_of_ble_eq_true rfl⟩ ⟨Nat.zero_le _, Nat.zero_le _⟩ rfl rfl (Nat.le_of_ble_eq_true rfl) ?_
  refine x_if_ne C dX12_head_27 32 (by decide) 30 rfl (fun hc => ?_) (fun hc => ?_)
  · have hf := (if_neg hc).symm.trans hf
    refine x_aload_n C dX12_head_32 33 rfl 0 rfl rfl ?_
    refine x_aload_n C dX12_head_33 34 rfl 0 rfl rfl ?_
    obtain ⟨v34, hv34, hf⟩ := x_bind hf
    refine x_getR C dX12_head_34 37 rfl hv34 cl11 rfl w1480 ?_
    refine x_iload_n C dX12_head_37 38 rfl 1 rfl rfl ?_
    refine x_iconst C dX12_head_38 39 rfl 0 (by decide) ?_
    obtain ⟨o39, ho39, hf⟩ := x_bind hf
    obtain ⟨w39, hw39, hf⟩ := x_bind hf
    refine x_callVv C dX12_head_39 42 rfl ho39 cl11.1 rfl (cX12_laysHeadc hw39) kX12_laysHead kvX12_laysHead w2085 ⟨rfl, rfl⟩ ⟨Nat.le_of_ble_eq_true rfl, Nat.le_of_ble_eq_true rfl⟩ ⟨Nat.zero_le _, Nat.zero_le _⟩ rfl rfl (Nat.le_of_ble_eq_true rfl) ?_
    refine x_aload_n C dX12_head_42 43 rfl 0 rfl rfl ?_
    refine x_aload_n C dX12_head_43 44 rfl 0 rfl rfl ?_
    obtain ⟨v44, hv44, hf⟩ := x_bind hf
    refine x_getR C dX12_head_44 47 rfl hv44 cl11 rfl w1481 ?_
    refine x_iload_n C dX12_head_47 48 rfl 1 rfl rfl ?_
    refine x_iconst C dX12_head_48 49 rfl 1 (by decide) ?_
    obtain ⟨o49, ho49, hf⟩ := x_bind hf
    obtain ⟨w49, hw49, hf⟩ := x_bind hf
    refine x_callVv C dX12_head_49 52 rfl ho49 cl11.1 rfl (cX12_laysHeadc hw49) kX12_laysHead kvX12_laysHead w2085 ⟨rfl, rfl⟩ ⟨Nat.le_of_ble_eq_true rfl, Nat.le_of_ble_eq_true rfl⟩ ⟨Nat.zero_le _, Nat.zero_le _⟩ rfl rfl (Nat.le_of_ble_eq_true rfl) ?_
    refine x_iconst C dX12_head_52 53 rfl 0 (by decide) ?_
    refine x_istore C dX12_head_53 55 rfl rfl [(4, .int (0)), (0, .ref (x0)), (1, .int (x1)), (2, .int (x2)), (3, .int (x3))] rfl ?_
    obtain ⟨b55, hb55, hf⟩ := x_bind hf
    refine x_lv [1, 2, 3, 4, 0] (lv' := [(0, .ref (x0)), (1, .int (x1)), (2, .int (x2)), (3, .int (x3)), (4, .int (0))]) rfl ?_
    refine lpX12_head_55 C hb55 (fun s55 e55 => ?_)
    subst e55
    exact jnX12_head_m_87 C hf hE
  · have hf := (if_pos hc).symm.trans hf
    refine x_iconst C dX12_head_30 31 rfl 0 (by decide) ?_
    exact x_iret C (hE _ (Option.some.inj hf).symm) dX12_head_31
noncomputable def fJX12_head_m_22 (σ : St) (x0 : Nat) (x1 : Int32) (x2 : Int32) (x3 : Int32) (t0 : Nat) : Option ((Int32 × St)) :=
fJX12_head_m_23 σ x0 x1 x2 x3 0 t0
set_option maxHeartbeats 4000000 in
set_option maxRecDepth 100000 in
theorem jnX12_head_m_22 {X : xX} {σ : St} {x0 : Nat} {x1 : Int32} {x2 : Int32} {x3 : Int32} {t0 : Nat}  {c : (Int32 × St)} (C : Ok X cX12_head 6 RX12 rmX12_head (some .int)) (hf : fJX12_head_m_22 σ x0 x1 x2 x3 t0 = some c) (hE : ∀ r, c = r → xE1 X (some (.int r.1)) r.2) : V X (0, 0) σ 22 [(0, .ref (x0)), (1, .int (x1)), (2, .int (x2)), (3, .int (x3))] [.ref (t0)] := by
  unfold fJX12_head_m_22 at hf
  refine x_iconst C dX12_head_22 23 rfl 0 (by decide) ?_
  exact jnX12_head_m_23 C hf hE
noncomputable def fX12_head (σ : St) (x0 : Nat) (x1 : Int32) (x2 : Int32) (x3 : Int32) : Option ((Int32 × St)) :=
(wrF σ x0 11 0 (.int (0))).bind fun σ2 =>
(isO σ2 x0 11).bind fun _ =>
(fX12_isRule σ2 x0 x1).bind fun w8 =>
if w8 = 0 then
(fJX12_head_m_22 σ2 x0 x1 x2 x3 x0)
else
(if x3 < 0 then
(fJX12_head_m_22 σ2 x0 x1 x2 x3 x0)
else
(fJX12_head_m_23 σ2 x0 x1 x2 x3 1 x0))
set_option maxHeartbeats 4000000 in
set_option maxRecDepth 100000 in
theorem cX12_headc {l : Launch} {G : xG} {A : Nat → Prop} {σ : St} {x0 : Nat} {x1 : Int32} {x2 : Int32} {x3 : Int32} {c : (Int32 × St)} (hf : fX12_head σ x0 x1 x2 x3 = some c) : Con l yX12_head (xws yX12_head cX12_head 6 (some .int)) rmX12_head [.ref (x0), .int (x1), .int (x2), .int (x3)] G A σ (some (.int c.1)) c.2 := by
  refine x_start rfl (Nat.le_of_ble_eq_true rfl) (fun X _ _ _ C hE0 => ?_)
  have hE : ∀ r, c = r → xE1 X (some (.int r.1)) r.2 := fun r e => e ▸ hE0
  show V X (0, 0) σ 0 [(0, .ref (x0)), (1, .int (x1)), (2, .int (x2)), (3, .int (x3))] []
  unfold fX12_head at hf
  refine x_aload_n C dX12_head_0 1 rfl 0 rfl rfl ?_
  refine x_iconst C dX12_head_1 2 rfl 0 (by decide) ?_
  obtain ⟨σ2, hσ2, hf⟩ := x_bind hf
  refine x_putX C dX12_head_2 5 rfl hσ2 cl11 rfl w1443 rfl rfl rfl ?_
  refine x_aload_n C dX12_head_5 6 rfl 0 rfl rfl ?_
  refine x_aload_n C dX12_head_6 7 rfl 0 rfl rfl ?_
  refine x_iload_n C dX12_head_7 8 rfl 1 rfl rfl ?_
  obtain ⟨o8, ho8, hf⟩ := x_bind hf
  obtain ⟨w8, hw8, hf⟩ := x_bind hf
  refine x_callVi C dX12_head_8 11 rfl ho8 cl11.1 rfl (cX12_isRulec hw8) kX12_isRule kvX12_isRule w1888 ⟨rfl, rfl⟩ ⟨Nat.le_of_ble_eq_true rfl, Nat.le_of_ble_eq_true rfl⟩ ⟨Nat.zero_le _, Nat.zero_le _⟩ rfl rfl (Nat.le_of_ble_eq_true rfl) ?_
  refine x_if_eq C dX12_head_11 22 (by decide) 14 rfl (fun hc => ?_) (fun hc => ?_)
  · have hf := (if_pos hc).symm.trans hf
    exact jnX12_head_m_22 C hf hE
  · have hf := (if_neg hc).symm.trans hf
    refine x_iload_n C dX12_head_14 15 rfl 3 rfl rfl ?_
    refine x_if_lt C dX12_head_15 22 (by decide) 18 rfl (fun hc => ?_) (fun hc => ?_)
    · have hf := (if_pos hc).symm.trans hf
      exact jnX12_head_m_22 C hf hE
    · have hf := (if_neg hc).symm.trans hf
      refine x_iconst C dX12_head_18 19 rfl 1 (by decide) ?_
      refine x_goto C dX12_head_19 23 (by decide) ?_
      exact jnX12_head_m_23 C hf hE
