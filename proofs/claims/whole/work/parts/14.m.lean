/-! methods: X12_rules X12_finds X12_isNormal X12_letterAt X12_orderOf X12_weightOf X12_compared X12_stepsIn X12_stepBy X12_wasAhead X12_runs -/
theorem dX12_rules_0 : decode cX12_rules 0 = .ok (.aload_n 0, 1) := by decide +kernel
theorem dX12_rules_1 : decode cX12_rules 1 = .ok (.getfield 13, 3) := by decide +kernel
theorem dX12_rules_4 : decode cX12_rules 4 = .ok (.iconst 1, 1) := by decide +kernel
theorem dX12_rules_5 : decode cX12_rules 5 = .ok (.laload, 1) := by decide +kernel
theorem dX12_rules_6 : decode cX12_rules 6 = .ok (.l2i, 1) := by decide +kernel
theorem dX12_rules_7 : decode cX12_rules 7 = .ok (.ireturn, 1) := by decide +kernel
abbrev rmX12_rules : Room := { frames := 0, cells := 0, slots := 0, locals := 0 }
noncomputable def fX12_rules (σ : St) (x0 : Nat) : Option (Int32) :=
(gR σ x0 11 1).bind fun v1 =>
(aL σ v1 1).bind fun v5 =>
some v5.toInt32
set_option maxHeartbeats 4000000 in
set_option maxRecDepth 100000 in
theorem cX12_rulesc {l : Launch} {G : xG} {A : Nat → Prop} {σ : St} {x0 : Nat} {c : Int32} (hf : fX12_rules σ x0 = some c) : Con l yX12_rules (xws yX12_rules cX12_rules 1 (some .int)) rmX12_rules [.ref (x0)] G A σ (some (.int c)) σ := by
  refine x_start rfl (Nat.le_of_ble_eq_true rfl) (fun X _ _ _ C hE0 => ?_)
  have hE : ∀ r, c = r → xE1 X (some (.int r)) σ := fun r e => e ▸ hE0
  show V X (0, 0) σ 0 [(0, .ref (x0))] []
  unfold fX12_rules at hf
  refine x_aload_n C dX12_rules_0 1 rfl 0 rfl rfl ?_
  obtain ⟨v1, hv1, hf⟩ := x_bind hf
  refine x_getR C dX12_rules_1 4 rfl hv1 cl11 rfl w1444 ?_
  refine x_iconst C dX12_rules_4 5 rfl 1 (by decide) ?_
  obtain ⟨v5, hv5, hf⟩ := x_bind hf
  refine x_laload C dX12_rules_5 6 rfl hv5 ?_
  refine x_l2i C dX12_rules_6 7 rfl ?_
  exact x_iret C (hE _ (Option.some.inj hf).symm) dX12_rules_7
theorem dX12_finds_0 : decode cX12_finds 0 = .ok (.aload_n 0, 1) := by decide +kernel
theorem dX12_finds_1 : decode cX12_finds 1 = .ok (.iconst 0, 1) := by decide +kernel
theorem dX12_finds_2 : decode cX12_finds 2 = .ok (.putfield 282, 3) := by decide +kernel
theorem dX12_finds_5 : decode cX12_finds 5 = .ok (.lload_n 1, 1) := by decide +kernel
theorem dX12_finds_6 : decode cX12_finds 6 = .ok (.invokestatic 136, 3) := by decide +kernel
theorem dX12_finds_9 : decode cX12_finds 9 = .ok (.istore 4, 2) := by decide +kernel
theorem dX12_finds_11 : decode cX12_finds 11 = .ok (.iconst 0, 1) := by decide +kernel
theorem dX12_finds_12 : decode cX12_finds 12 = .ok (.istore 5, 2) := by decide +kernel
theorem dX12_finds_14 : decode cX12_finds 14 = .ok (.iload 5, 2) := by decide +kernel
theorem dX12_finds_16 : decode cX12_finds 16 = .ok (.iload 4, 2) := by decide +kernel
theorem dX12_finds_18 : decode cX12_finds 18 = .ok (.if_icmp .ge 97, 3) := by decide +kernel
theorem dX12_finds_21 : decode cX12_finds 21 = .ok (.iconst 0, 1) := by decide +kernel
theorem dX12_finds_22 : decode cX12_finds 22 = .ok (.istore 6, 2) := by decide +kernel
theorem dX12_finds_24 : decode cX12_finds 24 = .ok (.iload 6, 2) := by decide +kernel
theorem dX12_finds_26 : decode cX12_finds 26 = .ok (.aload_n 0, 1) := by decide +kernel
theorem dX12_finds_27 : decode cX12_finds 27 = .ok (.invokevirtual 273, 3) := by decide +kernel
theorem dX12_finds_30 : decode cX12_finds 30 = .ok (.if_icmp .ge 79, 3) := by decide +kernel
theorem dX12_finds_33 : decode cX12_finds 33 = .ok (.lload_n 1, 1) := by decide +kernel
theorem dX12_finds_34 : decode cX12_finds 34 = .ok (.iload 5, 2) := by decide +kernel
theorem dX12_finds_36 : decode cX12_finds 36 = .ok (.aload_n 0, 1) := by decide +kernel
theorem dX12_finds_37 : decode cX12_finds 37 = .ok (.iload 6, 2) := by decide +kernel
theorem dX12_finds_39 : decode cX12_finds 39 = .ok (.invokevirtual 285, 3) := by decide +kernel
theorem dX12_finds_42 : decode cX12_finds 42 = .ok (.aload_n 0, 1) := by decide +kernel
theorem dX12_finds_43 : decode cX12_finds 43 = .ok (.iload 6, 2) := by decide +kernel
theorem dX12_finds_45 : decode cX12_finds 45 = .ok (.invokevirtual 288, 3) := by decide +kernel
theorem dX12_finds_48 : decode cX12_finds 48 = .ok (.invokestatic 291, 3) := by decide +kernel
theorem dX12_finds_51 : decode cX12_finds 51 = .ok (.lstore 7, 2) := by decide +kernel
theorem dX12_finds_53 : decode cX12_finds 53 = .ok (.lload 7, 2) := by decide +kernel
theorem dX12_finds_55 : decode cX12_finds 55 = .ok (.ldc2_w 276, 3) := by decide +kernel
theorem dX12_finds_58 : decode cX12_finds 58 = .ok (.lcmp, 1) := by decide +kernel
theorem dX12_finds_59 : decode cX12_finds 59 = .ok (.ifCond .ne 6, 3) := by decide +kernel
theorem dX12_finds_62 : decode cX12_finds 62 = .ok (.goto 41, 3) := by decide +kernel
theorem dX12_finds_65 : decode cX12_finds 65 = .ok (.aload_n 0, 1) := by decide +kernel
theorem dX12_finds_66 : decode cX12_finds 66 = .ok (.getfield 282, 3) := by decide +kernel
theorem dX12_finds_69 : decode cX12_finds 69 = .ok (.iload_n 3, 1) := by decide +kernel
theorem dX12_finds_70 : decode cX12_finds 70 = .ok (.if_icmp .ne 23, 3) := by decide +kernel
theorem dX12_finds_73 : decode cX12_finds 73 = .ok (.aload_n 0, 1) := by decide +kernel
theorem dX12_finds_74 : decode cX12_finds 74 = .ok (.iload 5, 2) := by decide +kernel
theorem dX12_finds_76 : decode cX12_finds 76 = .ok (.putfield 295, 3) := by decide +kernel
theorem dX12_finds_79 : decode cX12_finds 79 = .ok (.aload_n 0, 1) := by decide +kernel
theorem dX12_finds_80 : decode cX12_finds 80 = .ok (.iload 6, 2) := by decide +kernel
theorem dX12_finds_82 : decode cX12_finds 82 = .ok (.putfield 298, 3) := by decide +kernel
theorem dX12_finds_85 : decode cX12_finds 85 = .ok (.aload_n 0, 1) := by decide +kernel
theorem dX12_finds_86 : decode cX12_finds 86 = .ok (.lload 7, 2) := by decide +kernel
theorem dX12_finds_88 : decode cX12_finds 88 = .ok (.putfield 301, 3) := by decide +kernel
theorem dX12_finds_91 : decode cX12_finds 91 = .ok (.iconst 1, 1) := by decide +kernel
theorem dX12_finds_92 : decode cX12_finds 92 = .ok (.ireturn, 1) := by decide +kernel
theorem dX12_finds_93 : decode cX12_finds 93 = .ok (.aload_n 0, 1) := by decide +kernel
theorem dX12_finds_94 : decode cX12_finds 94 = .ok (.dup, 1) := by decide +kernel
theorem dX12_finds_95 : decode cX12_finds 95 = .ok (.getfield 282, 3) := by decide +kernel
theorem dX12_finds_98 : decode cX12_finds 98 = .ok (.iconst 1, 1) := by decide +kernel
theorem dX12_finds_99 : decode cX12_finds 99 = .ok (.iadd, 1) := by decide +kernel
theorem dX12_finds_100 : decode cX12_finds 100 = .ok (.putfield 282, 3) := by decide +kernel
theorem dX12_finds_103 : decode cX12_finds 103 = .ok (.iinc 6 1, 3) := by decide +kernel
theorem dX12_finds_106 : decode cX12_finds 106 = .ok (.goto (-82), 3) := by decide +kernel
theorem dX12_finds_109 : decode cX12_finds 109 = .ok (.iinc 5 1, 3) := by decide +kernel
theorem dX12_finds_112 : decode cX12_finds 112 = .ok (.goto (-98), 3) := by decide +kernel
theorem dX12_finds_115 : decode cX12_finds 115 = .ok (.iconst 0, 1) := by decide +kernel
theorem dX12_finds_116 : decode cX12_finds 116 = .ok (.ireturn, 1) := by decide +kernel
abbrev rmX12_finds : Room := { frames := 4, cells := 0, slots := 0, locals := 101 }
noncomputable def fLX12_finds_24 (x0 : Nat) (x1 : Int64) (x3 : Int32) (x4 : Int32) (x5 : Int32) (a : Int32 × St) : Option ((Int32 × St) ⊕ ((Int32 × Int64 × St) ⊕ (St))) :=
(isO a.2 x0 11).bind fun _ =>
(fX12_rules a.2 x0).bind fun w27 =>
if w27 ≤ a.1 then
(some (Sum.inr (Sum.inr a.2)))
else
((isO a.2 x0 11).bind fun _ =>
(fX12_leftOf a.2 x0 a.1).bind fun w39 =>
(isO a.2 x0 11).bind fun _ =>
(fX12_rightOf a.2 x0 a.1).bind fun w45 =>
(fX12_made x1 x5 w39 w45).bind fun w48 =>
if (lg_cmp w48 (-1)) = 0 then
(xlet (a.1 + 1) fun v103 =>
some (Sum.inl (v103, a.2)))
else
((gI a.2 x0 11 19).bind fun v66 =>
if v66 = x3 then
(some (Sum.inr (Sum.inl (a.1, w48, a.2))))
else
((gI a.2 x0 11 19).bind fun v95 =>
(wrF a.2 x0 11 19 (.int (v95 + 1))).bind fun σ100 =>
xlet (a.1 + 1) fun v103 =>
some (Sum.inl (v103, σ100)))))
set_option maxHeartbeats 4000000 in
set_option maxRecDepth 100000 in
theorem lpX12_finds_24 {X : xX} {x0 : Nat} {x1 : Int64} {x3 : Int32} {x4 : Int32} {x5 : Int32}  {a0 : Int32 × St} {b : (Int32 × Int64 × St) ⊕ (St)} (C : Ok X cX12_finds 9 RX12 rmX12_finds (some .boolean)) (hb : iterP (fLX12_finds_24 x0 x1 x3 x4 x5) a0 = some b) (hy0 : ∀ s, b = (Sum.inl s) → V X (0, 0) s.2.2 73 [(0, .ref (x0)), (5, .int (x5)), (6, .int (s.1)), (7, .long (s.2.1))] []) (hy1 : ∀ s, b = (Sum.inr s) → V X (0, 0) s 109 [(0, .ref (x0)), (1, .long (x1)), (3, .int (x3)), (4, .int (x4)), (5, .int (x5))] []) : V X (0, 0) a0.2 24 [(0, .ref (x0)), (1, .long (x1)), (3, .int (x3)), (4, .int (x4)), (5, .int (x5)), (6, .int (a0.1))] [] := by
  obtain ⟨n, hn⟩ := iterP_some hb
  refine x_loop (P := fun a => V X (0, 0) a.2 24 [(0, .ref (x0)), (1, .long (x1)), (3, .int (x3)), (4, .int (x4)), (5, .int (x5)), (6, .int (a.1))] []) ?_ n a0 hn
  intro a c hf hK hxx
  have hx0 : ∀ s, c = Sum.inr (Sum.inl s) → V X (0, 0) s.2.2 73 [(0, .ref (x0)), (5, .int (x5)), (6, .int (s.1)), (7, .long (s.2.1))] [] := fun s e => hy0 s (hxx _ e).symm
  have hx1 : ∀ s, c = Sum.inr (Sum.inr s) → V X (0, 0) s 109 [(0, .ref (x0)), (1, .long (x1)), (3, .int (x3)), (4, .int (x4)), (5, .int (x5))] [] := fun s e => hy1 s (hxx _ e).symm
  unfold fLX12_finds_24 at hf
  refine x_iload C dX12_finds_24 26 rfl 5 rfl ?_
  refine x_aload_n C dX12_finds_26 27 rfl 0 rfl rfl ?_
  obtain ⟨o27, ho27, hf⟩ := x_bind hf
  obtain ⟨w27, hw27, hf⟩ := x_bind hf
  refine x_callVi C dX12_finds_27 30 rfl ho27 cl11.1 rfl (cX12_rulesc hw27) kX12_rules kvX12_rules w1735 ⟨rfl, rfl⟩ ⟨Nat.le_of_ble_eq_true rfl, Nat.le_of_ble_eq_true rfl⟩ ⟨Nat.zero_le _, Nat.zero_le _⟩ rfl rfl (Nat.le_of_ble_eq_true rfl) ?_
  refine x_icmp_ge C dX12_finds_30 109 (by decide) 33 rfl (fun hc => ?_) (fun hc => ?_)
  · have hf := (if_pos hc).symm.trans hf
    refine x_lv [0, 1, 2, 3, 4] (lv' := [(0, .ref (x0)), (1, .long (x1)), (3, .int (x3)), (4, .int (x4)), (5, .int (x5))]) rfl ?_
    exact hx1 _ (Option.some.inj hf).symm
  · have hf := (if_neg hc).symm.trans hf
    refine x_lload_n C dX12_finds_33 34 rfl 1 rfl rfl ?_
    refine x_iload C dX12_finds_34 36 rfl 4 rfl ?_
    refine x_aload_n C dX12_finds_36 37 rfl 0 rfl rfl ?_
    refine x_iload C dX12_finds_37 39 rfl 5 rfl ?_
    obtain ⟨o39, ho39, hf⟩ := x_bind hf
    obtain ⟨w39, hw39, hf⟩ := x_bind hf
    refine x_callVl C dX12_finds_39 42 rfl ho39 cl11.1 rfl (cX12_leftOfc hw39) kX12_leftOf kvX12_leftOf w1752 ⟨rfl, rfl⟩ ⟨Nat.le_of_ble_eq_true rfl, Nat.le_of_ble_eq_true rfl⟩ ⟨Nat.zero_le _, Nat.zero_le _⟩ rfl rfl (Nat.le_of_ble_eq_true rfl) ?_
    refine x_aload_n C dX12_finds_42 43 rfl 0 rfl rfl ?_
    refine x_iload C dX12_finds_43 45 rfl 5 rfl ?_
    obtain ⟨o45, ho45, hf⟩ := x_bind hf
    obtain ⟨w45, hw45, hf⟩ := x_bind hf
    refine x_callVl C dX12_finds_45 48 rfl ho45 cl11.1 rfl (cX12_rightOfc hw45) kX12_rightOf kvX12_rightOf w1756 ⟨rfl, rfl⟩ ⟨Nat.le_of_ble_eq_true rfl, Nat.le_of_ble_eq_true rfl⟩ ⟨Nat.zero_le _, Nat.zero_le _⟩ rfl rfl (Nat.le_of_ble_eq_true rfl) ?_
    obtain ⟨w48, hw48, hf⟩ := x_bind hf
    refine x_callSl C dX12_finds_48 51 rfl (cX12_madec hw48) kX12_made ksX12_made w1792 ⟨rfl, rfl⟩ ⟨Nat.le_of_ble_eq_true rfl, Nat.le_of_ble_eq_true rfl⟩ ⟨Nat.zero_le _, Nat.zero_le _⟩ rfl rfl (Nat.le_of_ble_eq_true rfl) ?_
    refine x_lstore C dX12_finds_51 53 rfl rfl [(7, .long (w48)), (0, .ref (x0)), (1, .long (x1)), (3, .int (x3)), (4, .int (x4)), (5, .int (x5)), (6, .int (a.1))] rfl ?_
    refine x_lload C dX12_finds_53 55 rfl 0 rfl ?_
    refine x_ldc2 C dX12_finds_55 58 rfl w1788 ?_
    refine x_lcmp C dX12_finds_58 59 rfl ?_
    refine x_if_ne C dX12_finds_59 65 (by decide) 62 rfl (fun hc => ?_) (fun hc => ?_)
    · have hf := (if_neg hc).symm.trans hf
      refine x_aload_n C dX12_finds_65 66 rfl 1 rfl rfl ?_
      obtain ⟨v66, hv66, hf⟩ := x_bind hf
      refine x_getI C dX12_finds_66 69 rfl hv66 cl11 rfl w1462 ?_
      refine x_iload_n C dX12_finds_69 70 rfl 3 rfl rfl ?_
      refine x_icmp_ne C dX12_finds_70 93 (by decide) 73 rfl (fun hc => ?_) (fun hc => ?_)
      · have hf := (if_neg hc).symm.trans hf
        refine x_aload_n C dX12_finds_93 94 rfl 1 rfl rfl ?_
        refine x_dup C dX12_finds_94 95 rfl rfl ?_
        obtain ⟨v95, hv95, hf⟩ := x_bind hf
        refine x_getI C dX12_finds_95 98 rfl hv95 cl11 rfl w1462 ?_
        refine x_iconst C dX12_finds_98 99 rfl 1 (by decide) ?_
        refine x_iadd C dX12_finds_99 100 rfl ?_
        obtain ⟨σ100, hσ100, hf⟩ := x_bind hf
        refine x_putX C dX12_finds_100 103 rfl hσ100 cl11 rfl w1462 rfl rfl rfl ?_
        obtain ⟨v103, ev103, hf⟩ := xlet_some hf
        refine x_iinc C dX12_finds_103 106 rfl 6 rfl v103 ev103 rfl [(6, .int (v103)), (7, .long (w48)), (0, .ref (x0)), (1, .long (x1)), (3, .int (x3)), (4, .int (x4)), (5, .int (x5))] rfl ?_
        refine x_goto C dX12_finds_106 24 (by decide) ?_
        refine x_lv [2, 3, 4, 5, 6, 0] (lv' := [(0, .ref (x0)), (1, .long (x1)), (3, .int (x3)), (4, .int (x4)), (5, .int (x5)), (6, .int (v103))]) rfl ?_
        exact hK _ (Option.some.inj hf).symm
      · have hf := (if_pos hc).symm.trans hf
        refine x_lv [1, 5, 6, 0] (lv' := [(0, .ref (x0)), (5, .int (x5)), (6, .int (a.1)), (7, .long (w48))]) rfl ?_
        exact hx0 _ (Option.some.inj hf).symm
    · have hf := (if_pos hc).symm.trans hf
      refine x_goto C dX12_finds_62 103 (by decide) ?_
      obtain ⟨v103, ev103, hf⟩ := xlet_some hf
      refine x_iinc C dX12_finds_103 106 rfl 6 rfl v103 ev103 rfl [(6, .int (v103)), (7, .long (w48)), (0, .ref (x0)), (1, .long (x1)), (3, .int (x3)), (4, .int (x4)), (5, .int (x5))] rfl ?_
      refine x_goto C dX12_finds_106 24 (by decide) ?_
      refine x_lv [2, 3, 4, 5, 6, 0] (lv' := [(0, .ref (x0)), (1, .long (x1)), (3, .int (x3)), (4, .int (x4)), (5, .int (x5)), (6, .int (v103))]) rfl ?_
      exact hK _ (Option.some.inj hf).symm
noncomputable def fLX12_finds_14 (x0 : Nat) (x1 : Int64) (x3 : Int32) (x4 : Int32) (a : Int32 × St) : Option ((Int32 × St) ⊕ ((Int32 × Int32 × Int64 × St) ⊕ (St))) :=
if x4 ≤ a.1 then
(some (Sum.inr (Sum.inr a.2)))
else
((iterP (fLX12_finds_24 x0 x1 x3 x4 a.1) (0, a.2)).bind fun b24 =>
(match b24 with
| .inl s24 =>
some (Sum.inr (Sum.inl (a.1, s24.1, s24.2.1, s24.2.2)))
| .inr s24 =>
xlet (a.1 + 1) fun v109 =>
some (Sum.inl (v109, s24))))
set_option maxHeartbeats 4000000 in
set_option maxRecDepth 100000 in
theorem lpX12_finds_14 {X : xX} {x0 : Nat} {x1 : Int64} {x3 : Int32} {x4 : Int32}  {a0 : Int32 × St} {b : (Int32 × Int32 × Int64 × St) ⊕ (St)} (C : Ok X cX12_finds 9 RX12 rmX12_finds (some .boolean)) (hb : iterP (fLX12_finds_14 x0 x1 x3 x4) a0 = some b) (hy0 : ∀ s, b = (Sum.inl s) → V X (0, 0) s.2.2.2 73 [(0, .ref (x0)), (5, .int (s.1)), (6, .int (s.2.1)), (7, .long (s.2.2.1))] []) (hy1 : ∀ s, b = (Sum.inr s) → V X (0, 0) s 115 [] []) : V X (0, 0) a0.2 14 [(0, .ref (x0)), (1, .long (x1)), (3, .int (x3)), (4, .int (x4)), (5, .int (a0.1))] [] := by
  obtain ⟨n, hn⟩ := iterP_some hb
  refine x_loop (P := fun a => V X (0, 0) a.2 14 [(0, .ref (x0)), (1, .long (x1)), (3, .int (x3)), (4, .int (x4)), (5, .int (a.1))] []) ?_ n a0 hn
  intro a c hf hK hxx
  have hx0 : ∀ s, c = Sum.inr (Sum.inl s) → V X (0, 0) s.2.2.2 73 [(0, .ref (x0)), (5, .int (s.1)), (6, .int (s.2.1)), (7, .long (s.2.2.1))] [] := fun s e => hy0 s (hxx _ e).symm
  have hx1 : ∀ s, c = Sum.inr (Sum.inr s) → V X (0, 0) s 115 [] [] := fun s e => hy1 s (hxx _ e).symm
  unfold fLX12_finds_14 at hf
  refine x_iload C dX12_finds_14 16 rfl 4 rfl ?_
  refine x_iload C dX12_finds_16 18 rfl 3 rfl ?_
  refine x_icmp_ge C dX12_finds_18 115 (by decide) 21 rfl (fun hc => ?_) (fun hc => ?_)
  · have hf := (if_pos hc).symm.trans hf
    refine x_lv [] (lv' := []) rfl ?_
    exact hx1 _ (Option.some.inj hf).symm
  · have hf := (if_neg hc).symm.trans hf
    refine x_iconst C dX12_finds_21 22 rfl 0 (by decide) ?_
    refine x_istore C dX12_finds_22 24 rfl rfl [(6, .int (0)), (0, .ref (x0)), (1, .long (x1)), (3, .int (x3)), (4, .int (x4)), (5, .int (a.1))] rfl ?_
    obtain ⟨b24, hb24, hf⟩ := x_bind hf
    refine x_lv [1, 2, 3, 4, 5, 0] (lv' := [(0, .ref (x0)), (1, .long (x1)), (3, .int (x3)), (4, .int (x4)), (5, .int (a.1)), (6, .int (0))]) rfl ?_
    refine lpX12_finds_24 C hb24 (fun s24 e24 => ?_) (fun s24 e24 => ?_)
    · subst e24
      try dsimp only at hf
      exact hx0 _ (Option.some.inj hf).symm
    · subst e24
      try dsimp only at hf
      obtain ⟨v109, ev109, hf⟩ := xlet_some hf
      refine x_iinc C dX12_finds_109 112 rfl 4 rfl v109 ev109 rfl [(5, .int (v109)), (0, .ref (x0)), (1, .long (x1)), (3, .int (x3)), (4, .int (x4))] rfl ?_
      refine x_goto C dX12_finds_112 14 (by decide) ?_
      refine x_lv [1, 2, 3, 4, 0] (lv' := [(0, .ref (x0)), (1, .long (x1)), (3, .int (x3)), (4, .int (x4)), (5, .int (v109))]) rfl ?_
      exact hK _ (Option.some.inj hf).symm
noncomputable def fX12_finds (σ : St) (x0 : Nat) (x1 : Int64) (x3 : Int32) : Option ((Int32 × St)) :=
(wrF σ x0 11 19 (.int (0))).bind fun σ2 =>
(fX12_length x1).bind fun w6 =>
(iterP (fLX12_finds_14 x0 x1 x3 w6) (0, σ2)).bind fun b14 =>
(match b14 with
| .inl s14 =>
(wrF s14.2.2.2 x0 11 16 (.int (s14.1))).bind fun σ76 =>
(wrF σ76 x0 11 17 (.int (s14.2.1))).bind fun σ82 =>
(wrF σ82 x0 11 18 (.long (s14.2.2.1))).bind fun σ88 =>
some (1, σ88)
| .inr s14 =>
some (0, s14))
set_option maxHeartbeats 4000000 in
set_option maxRecDepth 100000 in
theorem cX12_findsc {l : Launch} {G : xG} {A : Nat → Prop} {σ : St} {x0 : Nat} {x1 : Int64} {x3 : Int32} {c : (Int32 × St)} (hf : fX12_finds σ x0 x1 x3 = some c) : Con l yX12_finds (xws yX12_finds cX12_finds 9 (some .boolean)) rmX12_finds [.ref (x0), .long (x1), .int (x3)] G A σ (some (.int c.1)) c.2 := by
  refine x_start rfl (Nat.le_of_ble_eq_true rfl) (fun X _ _ _ C hE0 => ?_)
  have hE : ∀ r, c = r → xE1 X (some (.int r.1)) r.2 := fun r e => e ▸ hE0
  show V X (0, 0) σ 0 [(0, .ref (x0)), (1, .long (x1)), (3, .int (x3))] []
  unfold fX12_finds at hf
  refine x_aload_n C dX12_finds_0 1 rfl 0 rfl rfl ?_
  refine x_iconst C dX12_finds_1 2 rfl 0 (by decide) ?_
  obtain ⟨σ2, hσ2, hf⟩ := x_bind hf
  refine x_putX C dX12_finds_2 5 rfl hσ2 cl11 rfl w1462 rfl rfl rfl ?_
  refine x_lload_n C dX12_finds_5 6 rfl 1 rfl rfl ?_
  obtain ⟨w6, hw6, hf⟩ := x_bind hf
  refine x_callSi C dX12_finds_6 9 rfl (cX12_lengthc hw6) kX12_length ksX12_length w1728 ⟨rfl, rfl⟩ ⟨Nat.le_of_ble_eq_true rfl, Nat.le_of_ble_eq_true rfl⟩ ⟨Nat.zero_le _, Nat.zero_le _⟩ rfl rfl (Nat.le_of_ble_eq_true rfl) ?_
  refine x_istore C dX12_finds_9 11 rfl rfl [(4, .int (w6)), (0, .ref (x0)), (1, .long (x1)), (3, .int (x3))] rfl ?_
  refine x_iconst C dX12_finds_11 12 rfl 0 (by decide) ?_
  refine x_istore C dX12_finds_12 14 rfl rfl [(5, .int (0)), (4, .int (w6)), (0, .ref (x0)), (1, .long (x1)), (3, .int (x3))] rfl ?_
  obtain ⟨b14, hb14, hf⟩ := x_bind hf
  refine x_lv [2, 3, 4, 1, 0] (lv' := [(0, .ref (x0)), (1, .long (x1)), (3, .int (x3)), (4, .int (w6)), (5, .int (0))]) rfl ?_
  refine lpX12_finds_14 C hb14 (fun s14 e14 => ?_) (fun s14 e14 => ?_)
  · subst e14
    try dsimp only at hf
    refine x_aload_n C dX12_finds_73 74 rfl 0 rfl rfl ?_
    refine x_iload C dX12_finds_74 76 rfl 1 rfl ?_
    obtain ⟨σ76, hσ76, hf⟩ := x_bind hf
    refine x_putX C dX12_finds_76 79 rfl hσ76 cl11 rfl w1459 rfl rfl rfl ?_
    refine x_aload_n C dX12_finds_79 80 rfl 0 rfl rfl ?_
    refine x_iload C dX12_finds_80 82 rfl 2 rfl ?_
    obtain ⟨σ82, hσ82, hf⟩ := x_bind hf
    refine x_putX C dX12_finds_82 85 rfl hσ82 cl11 rfl w1460 rfl rfl rfl ?_
    refine x_aload_n C dX12_finds_85 86 rfl 0 rfl rfl ?_
    refine x_lload C dX12_finds_86 88 rfl 3 rfl ?_
    obtain ⟨σ88, hσ88, hf⟩ := x_bind hf
    refine x_putX C dX12_finds_88 91 rfl hσ88 cl11 rfl w1461 rfl rfl rfl ?_
    refine x_iconst C dX12_finds_91 92 rfl 1 (by decide) ?_
    exact x_zret C rfl (hE _ (Option.some.inj hf).symm) dX12_finds_92
  · subst e14
    try dsimp only at hf
    refine x_iconst C dX12_finds_115 116 rfl 0 (by decide) ?_
    exact x_zret C rfl (hE _ (Option.some.inj hf).symm) dX12_finds_116
theorem dX12_isNormal_0 : decode cX12_isNormal 0 = .ok (.aload_n 0, 1) := by decide +kernel
theorem dX12_isNormal_1 : decode cX12_isNormal 1 = .ok (.lload_n 1, 1) := by decide +kernel
theorem dX12_isNormal_2 : decode cX12_isNormal 2 = .ok (.iconst 0, 1) := by decide +kernel
theorem dX12_isNormal_3 : decode cX12_isNormal 3 = .ok (.invokevirtual 305, 3) := by decide +kernel
theorem dX12_isNormal_6 : decode cX12_isNormal 6 = .ok (.ifCond .ne 7, 3) := by decide +kernel
theorem dX12_isNormal_9 : decode cX12_isNormal 9 = .ok (.iconst 1, 1) := by decide +kernel
theorem dX12_isNormal_10 : decode cX12_isNormal 10 = .ok (.goto 4, 3) := by decide +kernel
theorem dX12_isNormal_13 : decode cX12_isNormal 13 = .ok (.iconst 0, 1) := by decide +kernel
theorem dX12_isNormal_14 : decode cX12_isNormal 14 = .ok (.ireturn, 1) := by decide +kernel
abbrev rmX12_isNormal : Room := { frames := 5, cells := 0, slots := 0, locals := 129 }
noncomputable def fX12_isNormal (σ : St) (x0 : Nat) (x1 : Int64) : Option ((Int32 × St)) :=
(isO σ x0 11).bind fun _ =>
(fX12_finds σ x0 x1 0).bind fun w3 =>
if w3.1 = 0 then
(some (1, w3.2))
else
(some (0, w3.2))
set_option maxHeartbeats 4000000 in
set_option maxRecDepth 100000 in
theorem cX12_isNormalc {l : Launch} {G : xG} {A : Nat → Prop} {σ : St} {x0 : Nat} {x1 : Int64} {c : (Int32 × St)} (hf : fX12_isNormal σ x0 x1 = some c) : Con l yX12_isNormal (xws yX12_isNormal cX12_isNormal 3 (some .boolean)) rmX12_isNormal [.ref (x0), .long (x1)] G A σ (some (.int c.1)) c.2 := by
  refine x_start rfl (Nat.le_of_ble_eq_true rfl) (fun X _ _ _ C hE0 => ?_)
  have hE : ∀ r, c = r → xE1 X (some (.int r.1)) r.2 := fun r e => e ▸ hE0
  show V X (0, 0) σ 0 [(0, .ref (x0)), (1, .long (x1))] []
  unfold fX12_isNormal at hf
  refine x_aload_n C dX12_isNormal_0 1 rfl 0 rfl rfl ?_
  refine x_lload_n C dX12_isNormal_1 2 rfl 1 rfl rfl ?_
  refine x_iconst C dX12_isNormal_2 3 rfl 0 (by decide) ?_
  obtain ⟨o3, ho3, hf⟩ := x_bind hf
  obtain ⟨w3, hw3, hf⟩ := x_bind hf
  refine x_callVi C dX12_isNormal_3 6 rfl ho3 cl11.1 rfl (cX12_findsc hw3) kX12_finds kvX12_finds w1810 ⟨rfl, rfl⟩ ⟨Nat.le_of_ble_eq_true rfl, Nat.le_of_ble_eq_true rfl⟩ ⟨Nat.zero_le _, Nat.zero_le _⟩ rfl rfl (Nat.le_of_ble_eq_true rfl) ?_
  refine x_if_ne C dX12_isNormal_6 13 (by decide) 9 rfl (fun hc => ?_) (fun hc => ?_)
  · have hf := (if_neg hc).symm.trans hf
    refine x_iconst C dX12_isNormal_13 14 rfl 0 (by decide) ?_
    exact x_zret C rfl (hE _ (Option.some.inj hf).symm) dX12_isNormal_14
  · have hf := (if_pos hc).symm.trans hf
    refine x_iconst C dX12_isNormal_9 10 rfl 1 (by decide) ?_
    refine x_goto C dX12_isNormal_10 14 (by decide) ?_
    exact x_zret C rfl (hE _ (Option.some.inj hf).symm) dX12_isNormal_14
theorem dX12_letterAt_0 : decode cX12_letterAt 0 = .ok (.lload_n 0, 1) := by decide +kernel
theorem dX12_letterAt_1 : decode cX12_letterAt 1 = .ok (.iload_n 2, 1) := by decide +kernel
theorem dX12_letterAt_2 : decode cX12_letterAt 2 = .ok (.iconst 1, 1) := by decide +kernel
theorem dX12_letterAt_3 : decode cX12_letterAt 3 = .ok (.invokestatic 144, 3) := by decide +kernel
theorem dX12_letterAt_6 : decode cX12_letterAt 6 = .ok (.l2i, 1) := by decide +kernel
theorem dX12_letterAt_7 : decode cX12_letterAt 7 = .ok (.iconst 1, 1) := by decide +kernel
theorem dX12_letterAt_8 : decode cX12_letterAt 8 = .ok (.isub, 1) := by decide +kernel
theorem dX12_letterAt_9 : decode cX12_letterAt 9 = .ok (.ireturn, 1) := by decide +kernel
abbrev rmX12_letterAt : Room := { frames := 2, cells := 0, slots := 0, locals := 47 }
noncomputable def fX12_letterAt (x0 : Int64) (x2 : Int32) : Option (Int32) :=
(fX12_part x0 x2 1).bind fun w3 =>
some (w3.toInt32 - 1)
set_option maxHeartbeats 4000000 in
set_option maxRecDepth 100000 in
theorem cX12_letterAtc {l : Launch} {G : xG} {A : Nat → Prop} {σ : St} {x0 : Int64} {x2 : Int32} {c : Int32} (hf : fX12_letterAt x0 x2 = some c) : Con l yX12_letterAt (xws yX12_letterAt cX12_letterAt 3 (some .int)) rmX12_letterAt [.long (x0), .int (x2)] G A σ (some (.int c)) σ := by
  refine x_start rfl (Nat.le_of_ble_eq_true rfl) (fun X _ _ _ C hE0 => ?_)
  have hE : ∀ r, c = r → xE1 X (some (.int r)) σ := fun r e => e ▸ hE0
  show V X (0, 0) σ 0 [(0, .long (x0)), (2, .int (x2))] []
  unfold fX12_letterAt at hf
  refine x_lload_n C dX12_letterAt_0 1 rfl 0 rfl rfl ?_
  refine x_iload_n C dX12_letterAt_1 2 rfl 1 rfl rfl ?_
  refine x_iconst C dX12_letterAt_2 3 rfl 1 (by decide) ?_
  obtain ⟨w3, hw3, hf⟩ := x_bind hf
  refine x_callSl C dX12_letterAt_3 6 rfl (cX12_partc hw3) kX12_part ksX12_part w1725 ⟨rfl, rfl⟩ ⟨Nat.le_of_ble_eq_true rfl, Nat.le_of_ble_eq_true rfl⟩ ⟨Nat.zero_le _, Nat.zero_le _⟩ rfl rfl (Nat.le_of_ble_eq_true rfl) ?_
  refine x_l2i C dX12_letterAt_6 7 rfl ?_
  refine x_iconst C dX12_letterAt_7 8 rfl 1 (by decide) ?_
  refine x_isub C dX12_letterAt_8 9 rfl ?_
  exact x_iret C (hE _ (Option.some.inj hf).symm) dX12_letterAt_9
theorem dX12_orderOf_0 : decode cX12_orderOf 0 = .ok (.iconst 0, 1) := by decide +kernel
theorem dX12_orderOf_1 : decode cX12_orderOf 1 = .ok (.istore_n 2, 1) := by decide +kernel
theorem dX12_orderOf_2 : decode cX12_orderOf 2 = .ok (.aload_n 0, 1) := by decide +kernel
theorem dX12_orderOf_3 : decode cX12_orderOf 3 = .ok (.getfield 13, 3) := by decide +kernel
theorem dX12_orderOf_6 : decode cX12_orderOf 6 = .ok (.bipush 7, 2) := by decide +kernel
theorem dX12_orderOf_8 : decode cX12_orderOf 8 = .ok (.iload_n 2, 1) := by decide +kernel
theorem dX12_orderOf_9 : decode cX12_orderOf 9 = .ok (.iadd, 1) := by decide +kernel
theorem dX12_orderOf_10 : decode cX12_orderOf 10 = .ok (.laload, 1) := by decide +kernel
theorem dX12_orderOf_11 : decode cX12_orderOf 11 = .ok (.iload_n 1, 1) := by decide +kernel
theorem dX12_orderOf_12 : decode cX12_orderOf 12 = .ok (.i2l, 1) := by decide +kernel
theorem dX12_orderOf_13 : decode cX12_orderOf 13 = .ok (.lcmp, 1) := by decide +kernel
theorem dX12_orderOf_14 : decode cX12_orderOf 14 = .ok (.ifCond .eq 9, 3) := by decide +kernel
theorem dX12_orderOf_17 : decode cX12_orderOf 17 = .ok (.iinc 2 1, 3) := by decide +kernel
theorem dX12_orderOf_20 : decode cX12_orderOf 20 = .ok (.goto (-18), 3) := by decide +kernel
theorem dX12_orderOf_23 : decode cX12_orderOf 23 = .ok (.iload_n 2, 1) := by decide +kernel
theorem dX12_orderOf_24 : decode cX12_orderOf 24 = .ok (.ireturn, 1) := by decide +kernel
abbrev rmX12_orderOf : Room := { frames := 0, cells := 0, slots := 0, locals := 0 }
noncomputable def fLX12_orderOf_2 (σ : St) (x0 : Nat) (x1 : Int32) (a : Int32) : Option ((Int32) ⊕ (Int32)) :=
(gR σ x0 11 1).bind fun v3 =>
(aL σ v3 (7 + a)).bind fun v10 =>
if (lg_cmp v10 x1.toInt64) = 0 then
(some (Sum.inr a))
else
(xlet (a + 1) fun v17 =>
some (Sum.inl v17))
set_option maxHeartbeats 4000000 in
set_option maxRecDepth 100000 in
theorem lpX12_orderOf_2 {X : xX} {σ : St} {x0 : Nat} {x1 : Int32}  {a0 : Int32} {b : Int32} (C : Ok X cX12_orderOf 3 RX12 rmX12_orderOf (some .int)) (hb : iterP (fLX12_orderOf_2 σ x0 x1) a0 = some b) (hy0 : ∀ s, b = s → V X (0, 0) σ 23 [(2, .int (s))] []) : V X (0, 0) σ 2 [(0, .ref (x0)), (1, .int (x1)), (2, .int (a0))] [] := by
  obtain ⟨n, hn⟩ := iterP_some hb
  refine x_loop (P := fun a => V X (0, 0) σ 2 [(0, .ref (x0)), (1, .int (x1)), (2, .int (a))] []) ?_ n a0 hn
  intro a c hf hK hxx
  have hx0 : ∀ s, c = Sum.inr s → V X (0, 0) σ 23 [(2, .int (s))] [] := fun s e => hy0 s (hxx _ e).symm
  unfold fLX12_orderOf_2 at hf
  refine x_aload_n C dX12_orderOf_2 3 rfl 0 rfl rfl ?_
  obtain ⟨v3, hv3, hf⟩ := x_bind hf
  refine x_getR C dX12_orderOf_3 6 rfl hv3 cl11 rfl w1444 ?_
  refine x_bipush C dX12_orderOf_6 8 rfl 7 (by decide) ?_
  refine x_iload_n C dX12_orderOf_8 9 rfl 2 rfl rfl ?_
  refine x_iadd C dX12_orderOf_9 10 rfl ?_
  obtain ⟨v10, hv10, hf⟩ := x_bind hf
  refine x_laload C dX12_orderOf_10 11 rfl hv10 ?_
  refine x_iload_n C dX12_orderOf_11 12 rfl 1 rfl rfl ?_
  refine x_i2l C dX12_orderOf_12 13 rfl ?_
  refine x_lcmp C dX12_orderOf_13 14 rfl ?_
  refine x_if_eq C dX12_orderOf_14 23 (by decide) 17 rfl (fun hc => ?_) (fun hc => ?_)
  · have hf := (if_pos hc).symm.trans hf
    refine x_lv [2] (lv' := [(2, .int (a))]) rfl ?_
    exact hx0 _ (Option.some.inj hf).symm
  · have hf := (if_neg hc).symm.trans hf
    obtain ⟨v17, ev17, hf⟩ := xlet_some hf
    refine x_iinc C dX12_orderOf_17 20 rfl 2 rfl v17 ev17 rfl [(2, .int (v17)), (0, .ref (x0)), (1, .int (x1))] rfl ?_
    refine x_goto C dX12_orderOf_20 2 (by decide) ?_
    refine x_lv [1, 2, 0] (lv' := [(0, .ref (x0)), (1, .int (x1)), (2, .int (v17))]) rfl ?_
    exact hK _ (Option.some.inj hf).symm
noncomputable def fX12_orderOf (σ : St) (x0 : Nat) (x1 : Int32) : Option (Int32) :=
(iterP (fLX12_orderOf_2 σ x0 x1) 0).bind fun b2 =>
some b2
set_option maxHeartbeats 4000000 in
set_option maxRecDepth 100000 in
theorem cX12_orderOfc {l : Launch} {G : xG} {A : Nat → Prop} {σ : St} {x0 : Nat} {x1 : Int32} {c : Int32} (hf : fX12_orderOf σ x0 x1 = some c) : Con l yX12_orderOf (xws yX12_orderOf cX12_orderOf 3 (some .int)) rmX12_orderOf [.ref (x0), .int (x1)] G A σ (some (.int c)) σ := by
  refine x_start rfl (Nat.le_of_ble_eq_true rfl) (fun X _ _ _ C hE0 => ?_)
  have hE : ∀ r, c = r → xE1 X (some (.int r)) σ := fun r e => e ▸ hE0
  show V X (0, 0) σ 0 [(0, .ref (x0)), (1, .int (x1))] []
  unfold fX12_orderOf at hf
  refine x_iconst C dX12_orderOf_0 1 rfl 0 (by decide) ?_
  refine x_istore_n C dX12_orderOf_1 2 rfl rfl rfl [(2, .int (0)), (0, .ref (x0)), (1, .int (x1))] rfl ?_
  obtain ⟨b2, hb2, hf⟩ := x_bind hf
  refine x_lv [1, 2, 0] (lv' := [(0, .ref (x0)), (1, .int (x1)), (2, .int (0))]) rfl ?_
  refine lpX12_orderOf_2 C hb2 (fun s2 e2 => ?_)
  subst e2
  refine x_iload_n C dX12_orderOf_23 24 rfl 0 rfl rfl ?_
  exact x_iret C (hE _ (Option.some.inj hf).symm) dX12_orderOf_24
theorem dX12_weightOf_0 : decode cX12_weightOf 0 = .ok (.iconst 0, 1) := by decide +kernel
theorem dX12_weightOf_1 : decode cX12_weightOf 1 = .ok (.istore_n 3, 1) := by decide +kernel
theorem dX12_weightOf_2 : decode cX12_weightOf 2 = .ok (.lload_n 1, 1) := by decide +kernel
theorem dX12_weightOf_3 : decode cX12_weightOf 3 = .ok (.lstore 4, 2) := by decide +kernel
theorem dX12_weightOf_5 : decode cX12_weightOf 5 = .ok (.lload 4, 2) := by decide +kernel
theorem dX12_weightOf_7 : decode cX12_weightOf 7 = .ok (.lconst 0, 1) := by decide +kernel
theorem dX12_weightOf_8 : decode cX12_weightOf 8 = .ok (.lcmp, 1) := by decide +kernel
theorem dX12_weightOf_9 : decode cX12_weightOf 9 = .ok (.ifCond .le 34, 3) := by decide +kernel
theorem dX12_weightOf_12 : decode cX12_weightOf 12 = .ok (.iload_n 3, 1) := by decide +kernel
theorem dX12_weightOf_13 : decode cX12_weightOf 13 = .ok (.aload_n 0, 1) := by decide +kernel
theorem dX12_weightOf_14 : decode cX12_weightOf 14 = .ok (.getfield 13, 3) := by decide +kernel
theorem dX12_weightOf_17 : decode cX12_weightOf 17 = .ok (.iconst 2, 1) := by decide +kernel
theorem dX12_weightOf_18 : decode cX12_weightOf 18 = .ok (.lload 4, 2) := by decide +kernel
theorem dX12_weightOf_20 : decode cX12_weightOf 20 = .ok (.ldc2_w 134, 3) := by decide +kernel
theorem dX12_weightOf_23 : decode cX12_weightOf 23 = .ok (.lrem, 1) := by decide +kernel
theorem dX12_weightOf_24 : decode cX12_weightOf 24 = .ok (.l2i, 1) := by decide +kernel
theorem dX12_weightOf_25 : decode cX12_weightOf 25 = .ok (.iadd, 1) := by decide +kernel
theorem dX12_weightOf_26 : decode cX12_weightOf 26 = .ok (.iconst 1, 1) := by decide +kernel
theorem dX12_weightOf_27 : decode cX12_weightOf 27 = .ok (.isub, 1) := by decide +kernel
theorem dX12_weightOf_28 : decode cX12_weightOf 28 = .ok (.laload, 1) := by decide +kernel
theorem dX12_weightOf_29 : decode cX12_weightOf 29 = .ok (.l2i, 1) := by decide +kernel
theorem dX12_weightOf_30 : decode cX12_weightOf 30 = .ok (.iadd, 1) := by decide +kernel
theorem dX12_weightOf_31 : decode cX12_weightOf 31 = .ok (.istore_n 3, 1) := by decide +kernel
theorem dX12_weightOf_32 : decode cX12_weightOf 32 = .ok (.lload 4, 2) := by decide +kernel
theorem dX12_weightOf_34 : decode cX12_weightOf 34 = .ok (.ldc2_w 134, 3) := by decide +kernel
theorem dX12_weightOf_37 : decode cX12_weightOf 37 = .ok (.ldiv, 1) := by decide +kernel
theorem dX12_weightOf_38 : decode cX12_weightOf 38 = .ok (.lstore 4, 2) := by decide +kernel
theorem dX12_weightOf_40 : decode cX12_weightOf 40 = .ok (.goto (-35), 3) := by decide +kernel
theorem dX12_weightOf_43 : decode cX12_weightOf 43 = .ok (.iload_n 3, 1) := by decide +kernel
theorem dX12_weightOf_44 : decode cX12_weightOf 44 = .ok (.ireturn, 1) := by decide +kernel
abbrev rmX12_weightOf : Room := { frames := 0, cells := 0, slots := 0, locals := 0 }
noncomputable def fLX12_weightOf_5 (σ : St) (x0 : Nat) (a : Int32 × Int64) : Option ((Int32 × Int64) ⊕ (Int32)) :=
if (lg_cmp a.2 0) ≤ 0 then
(some (Sum.inr a.1))
else
((gR σ x0 11 1).bind fun v14 =>
(aL σ v14 ((2 + ((a.2 - a.2 / 6 * 6).toInt32)) - 1)).bind fun v28 =>
xlet (a.1 + v28.toInt32) fun v31 =>
xlet (a.2 / 6) fun v38 =>
some (Sum.inl (v31, v38)))
set_option maxHeartbeats 4000000 in
set_option maxRecDepth 100000 in
theorem lpX12_weightOf_5 {X : xX} {σ : St} {x0 : Nat}  {a0 : Int32 × Int64} {b : Int32} (C : Ok X cX12_weightOf 6 RX12 rmX12_weightOf (some .int)) (hb : iterP (fLX12_weightOf_5 σ x0) a0 = some b) (hy0 : ∀ s, b = s → V X (0, 0) σ 43 [(3, .int (s))] []) : V X (0, 0) σ 5 [(0, .ref (x0)), (3, .int (a0.1)), (4, .long (a0.2))] [] := by
  obtain ⟨n, hn⟩ := iterP_some hb
  refine x_loop (P := fun a => V X (0, 0) σ 5 [(0, .ref (x0)), (3, .int (a.1)), (4, .long (a.2))] []) ?_ n a0 hn
  intro a c hf hK hxx
  have hx0 : ∀ s, c = Sum.inr s → V X (0, 0) σ 43 [(3, .int (s))] [] := fun s e => hy0 s (hxx _ e).symm
  unfold fLX12_weightOf_5 at hf
  refine x_lload C dX12_weightOf_5 7 rfl 2 rfl ?_
  refine x_lconst C dX12_weightOf_7 8 rfl 0 (by decide) ?_
  refine x_lcmp C dX12_weightOf_8 9 rfl ?_
  refine x_if_le C dX12_weightOf_9 43 (by decide) 12 rfl (fun hc => ?_) (fun hc => ?_)
  · have hf := (if_pos hc).symm.trans hf
    refine x_lv [1] (lv' := [(3, .int (a.1))]) rfl ?_
    exact hx0 _ (Option.some.inj hf).symm
  · have hf := (if_neg hc).symm.trans hf
    refine x_iload_n C dX12_weightOf_12 13 rfl 1 rfl rfl ?_
    refine x_aload_n C dX12_weightOf_13 14 rfl 0 rfl rfl ?_
    obtain ⟨v14, hv14, hf⟩ := x_bind hf
    refine x_getR C dX12_weightOf_14 17 rfl hv14 cl11 rfl w1444 ?_
    refine x_iconst C dX12_weightOf_17 18 rfl 2 (by decide) ?_
    refine x_lload C dX12_weightOf_18 20 rfl 2 rfl ?_
    refine x_ldc2 C dX12_weightOf_20 23 rfl w1704 ?_
    refine x_lrem C dX12_weightOf_23 24 rfl (by decide) ?_
    refine x_l2i C dX12_weightOf_24 25 rfl ?_
    refine x_iadd C dX12_weightOf_25 26 rfl ?_
    refine x_iconst C dX12_weightOf_26 27 rfl 1 (by decide) ?_
    refine x_isub C dX12_weightOf_27 28 rfl ?_
    obtain ⟨v28, hv28, hf⟩ := x_bind hf
    refine x_laload C dX12_weightOf_28 29 rfl hv28 ?_
    refine x_l2i C dX12_weightOf_29 30 rfl ?_
    refine x_iadd C dX12_weightOf_30 31 rfl ?_
    obtain ⟨v31, ev31, hf⟩ := xlet_some hf
    refine x_topi ev31 ?_
    refine x_istore_n C dX12_weightOf_31 32 rfl rfl rfl [(3, .int (v31)), (0, .ref (x0)), (4, .long (a.2))] rfl ?_
    refine x_lload C dX12_weightOf_32 34 rfl 2 rfl ?_
    refine x_ldc2 C dX12_weightOf_34 37 rfl w1704 ?_
    refine x_ldiv C dX12_weightOf_37 38 rfl (by decide) ?_
    obtain ⟨v38, ev38, hf⟩ := xlet_some hf
    refine x_topl ev38 ?_
    refine x_lstore C dX12_weightOf_38 40 rfl rfl [(4, .long (v38)), (3, .int (v31)), (0, .ref (x0))] rfl ?_
    refine x_goto C dX12_weightOf_40 5 (by decide) ?_
    refine x_lv [2, 1, 0] (lv' := [(0, .ref (x0)), (3, .int (v31)), (4, .long (v38))]) rfl ?_
    exact hK _ (Option.some.inj hf).symm
noncomputable def fX12_weightOf (σ : St) (x0 : Nat) (x1 : Int64) : Option (Int32) :=
(iterP (fLX12_weightOf_5 σ x0) (0, x1)).bind fun b5 =>
some b5
set_option maxHeartbeats 4000000 in
set_option maxRecDepth 100000 in
theorem cX12_weightOfc {l : Launch} {G : xG} {A : Nat → Prop} {σ : St} {x0 : Nat} {x1 : Int64} {c : Int32} (hf : fX12_weightOf σ x0 x1 = some c) : Con l yX12_weightOf (xws yX12_weightOf cX12_weightOf 6 (some .int)) rmX12_weightOf [.ref (x0), .long (x1)] G A σ (some (.int c)) σ := by
  refine x_start rfl (Nat.le_of_ble_eq_true rfl) (fun X _ _ _ C hE0 => ?_)
  have hE : ∀ r, c = r → xE1 X (some (.int r)) σ := fun r e => e ▸ hE0
  show V X (0, 0) σ 0 [(0, .ref (x0)), (1, .long (x1))] []
  unfold fX12_weightOf at hf
  refine x_iconst C dX12_weightOf_0 1 rfl 0 (by decide) ?_
  refine x_istore_n C dX12_weightOf_1 2 rfl rfl rfl [(3, .int (0)), (0, .ref (x0)), (1, .long (x1))] rfl ?_
  refine x_lload_n C dX12_weightOf_2 3 rfl 2 rfl rfl ?_
  refine x_lstore C dX12_weightOf_3 5 rfl rfl [(4, .long (x1)), (3, .int (0)), (0, .ref (x0)), (1, .long (x1))] rfl ?_
  obtain ⟨b5, hb5, hf⟩ := x_bind hf
  refine x_lv [2, 1, 0] (lv' := [(0, .ref (x0)), (3, .int (0)), (4, .long (x1))]) rfl ?_
  refine lpX12_weightOf_5 C hb5 (fun s5 e5 => ?_)
  subst e5
  refine x_iload_n C dX12_weightOf_43 44 rfl 0 rfl rfl ?_
  exact x_iret C (hE _ (Option.some.inj hf).symm) dX12_weightOf_44
theorem dX12_compared_0 : decode cX12_compared 0 = .ok (.lload_n 1, 1) := by decide +kernel
theorem dX12_compared_1 : decode cX12_compared 1 = .ok (.lload_n 3, 1) := by decide +kernel
theorem dX12_compared_2 : decode cX12_compared 2 = .ok (.lcmp, 1) := by decide +kernel
theorem dX12_compared_3 : decode cX12_compared 3 = .ok (.ifCond .ne 5, 3) := by decide +kernel
theorem dX12_compared_6 : decode cX12_compared 6 = .ok (.iconst 0, 1) := by decide +kernel
theorem dX12_compared_7 : decode cX12_compared 7 = .ok (.ireturn, 1) := by decide +kernel
theorem dX12_compared_8 : decode cX12_compared 8 = .ok (.aload_n 0, 1) := by decide +kernel
theorem dX12_compared_9 : decode cX12_compared 9 = .ok (.lload_n 1, 1) := by decide +kernel
theorem dX12_compared_10 : decode cX12_compared 10 = .ok (.invokevirtual 152, 3) := by decide +kernel
theorem dX12_compared_13 : decode cX12_compared 13 = .ok (.aload_n 0, 1) := by decide +kernel
theorem dX12_compared_14 : decode cX12_compared 14 = .ok (.lload_n 3, 1) := by decide +kernel
theorem dX12_compared_15 : decode cX12_compared 15 = .ok (.invokevirtual 152, 3) := by decide +kernel
theorem dX12_compared_18 : decode cX12_compared 18 = .ok (.isub, 1) := by decide +kernel
theorem dX12_compared_19 : decode cX12_compared 19 = .ok (.istore 5, 2) := by decide +kernel
theorem dX12_compared_21 : decode cX12_compared 21 = .ok (.lload_n 1, 1) := by decide +kernel
theorem dX12_compared_22 : decode cX12_compared 22 = .ok (.invokestatic 136, 3) := by decide +kernel
theorem dX12_compared_25 : decode cX12_compared 25 = .ok (.lload_n 3, 1) := by decide +kernel
theorem dX12_compared_26 : decode cX12_compared 26 = .ok (.invokestatic 136, 3) := by decide +kernel
theorem dX12_compared_29 : decode cX12_compared 29 = .ok (.invokestatic 155, 3) := by decide +kernel
theorem dX12_compared_32 : decode cX12_compared 32 = .ok (.istore 6, 2) := by decide +kernel
theorem dX12_compared_34 : decode cX12_compared 34 = .ok (.iconst 0, 1) := by decide +kernel
theorem dX12_compared_35 : decode cX12_compared 35 = .ok (.istore 7, 2) := by decide +kernel
theorem dX12_compared_37 : decode cX12_compared 37 = .ok (.iload 7, 2) := by decide +kernel
theorem dX12_compared_39 : decode cX12_compared 39 = .ok (.iload 6, 2) := by decide +kernel
theorem dX12_compared_41 : decode cX12_compared 41 = .ok (.if_icmp .ge 37, 3) := by decide +kernel
theorem dX12_compared_44 : decode cX12_compared 44 = .ok (.iload 5, 2) := by decide +kernel
theorem dX12_compared_46 : decode cX12_compared 46 = .ok (.ifCond .ne 32, 3) := by decide +kernel
theorem dX12_compared_49 : decode cX12_compared 49 = .ok (.aload_n 0, 1) := by decide +kernel
theorem dX12_compared_50 : decode cX12_compared 50 = .ok (.lload_n 1, 1) := by decide +kernel
theorem dX12_compared_51 : decode cX12_compared 51 = .ok (.iload 7, 2) := by decide +kernel
theorem dX12_compared_53 : decode cX12_compared 53 = .ok (.invokestatic 160, 3) := by decide +kernel
theorem dX12_compared_56 : decode cX12_compared 56 = .ok (.invokevirtual 164, 3) := by decide +kernel
theorem dX12_compared_59 : decode cX12_compared 59 = .ok (.aload_n 0, 1) := by decide +kernel
theorem dX12_compared_60 : decode cX12_compared 60 = .ok (.lload_n 3, 1) := by decide +kernel
theorem dX12_compared_61 : decode cX12_compared 61 = .ok (.iload 7, 2) := by decide +kernel
theorem dX12_compared_63 : decode cX12_compared 63 = .ok (.invokestatic 160, 3) := by decide +kernel
theorem dX12_compared_66 : decode cX12_compared 66 = .ok (.invokevirtual 164, 3) := by decide +kernel
theorem dX12_compared_69 : decode cX12_compared 69 = .ok (.isub, 1) := by decide +kernel
theorem dX12_compared_70 : decode cX12_compared 70 = .ok (.istore 5, 2) := by decide +kernel
theorem dX12_compared_72 : decode cX12_compared 72 = .ok (.iinc 7 1, 3) := by decide +kernel
theorem dX12_compared_75 : decode cX12_compared 75 = .ok (.goto (-38), 3) := by decide +kernel
theorem dX12_compared_78 : decode cX12_compared 78 = .ok (.iload 5, 2) := by decide +kernel
theorem dX12_compared_80 : decode cX12_compared 80 = .ok (.ifCond .le 7, 3) := by decide +kernel
theorem dX12_compared_83 : decode cX12_compared 83 = .ok (.iconst 1, 1) := by decide +kernel
theorem dX12_compared_84 : decode cX12_compared 84 = .ok (.goto 4, 3) := by decide +kernel
theorem dX12_compared_87 : decode cX12_compared 87 = .ok (.iconst (-1), 1) := by decide +kernel
theorem dX12_compared_88 : decode cX12_compared 88 = .ok (.ireturn, 1) := by decide +kernel
abbrev rmX12_compared : Room := { frames := 3, cells := 0, slots := 0, locals := 69 }
noncomputable def fLX12_compared_37 (σ : St) (x0 : Nat) (x1 : Int64) (x3 : Int64) (x6 : Int32) (a : Int32 × Int32) : Option ((Int32 × Int32) ⊕ (Int32)) :=
if x6 ≤ a.2 then
(some (Sum.inr a.1))
else
(if a.1 = 0 then
((fX12_letterAt x1 a.2).bind fun w53 =>
(isO σ x0 11).bind fun _ =>
(fX12_orderOf σ x0 w53).bind fun w56 =>
(fX12_letterAt x3 a.2).bind fun w63 =>
(isO σ x0 11).bind fun _ =>
(fX12_orderOf σ x0 w63).bind fun w66 =>
xlet (w56 - w66) fun v70 =>
xlet (a.2 + 1) fun v72 =>
some (Sum.inl (v70, v72)))
else
(some (Sum.inr a.1)))
set_option maxHeartbeats 4000000 in
set_option maxRecDepth 100000 in
theorem lpX12_compared_37 {X : xX} {σ : St} {x0 : Nat} {x1 : Int64} {x3 : Int64} {x6 : Int32}  {a0 : Int32 × Int32} {b : Int32} (C : Ok X cX12_compared 8 RX12 rmX12_compared (some .int)) (hb : iterP (fLX12_compared_37 σ x0 x1 x3 x6) a0 = some b) (hy0 : ∀ s, b = s → V X (0, 0) σ 78 [(5, .int (s))] []) : V X (0, 0) σ 37 [(0, .ref (x0)), (1, .long (x1)), (3, .long (x3)), (5, .int (a0.1)), (6, .int (x6)), (7, .int (a0.2))] [] := by
  obtain ⟨n, hn⟩ := iterP_some hb
  refine x_loop (P := fun a => V X (0, 0) σ 37 [(0, .ref (x0)), (1, .long (x1)), (3, .long (x3)), (5, .int (a.1)), (6, .int (x6)), (7, .int (a.2))] []) ?_ n a0 hn
  intro a c hf hK hxx
  have hx0 : ∀ s, c = Sum.inr s → V X (0, 0) σ 78 [(5, .int (s))] [] := fun s e => hy0 s (hxx _ e).symm
  unfold fLX12_compared_37 at hf
  refine x_iload C dX12_compared_37 39 rfl 5 rfl ?_
  refine x_iload C dX12_compared_39 41 rfl 4 rfl ?_
  refine x_icmp_ge C dX12_compared_41 78 (by decide) 44 rfl (fun hc => ?_) (fun hc => ?_)
  · have hf := (if_pos hc).symm.trans hf
    refine x_lv [3] (lv' := [(5, .int (a.1))]) rfl ?_
    exact hx0 _ (Option.some.inj hf).symm
  · have hf := (if_neg hc).symm.trans hf
    refine x_iload C dX12_compared_44 46 rfl 3 rfl ?_
    refine x_if_ne C dX12_compared_46 78 (by decide) 49 rfl (fun hc => ?_) (fun hc => ?_)
    · have hf := (if_neg hc).symm.trans hf
      refine x_lv [3] (lv' := [(5, .int (a.1))]) rfl ?_
      exact hx0 _ (Option.some.inj hf).symm
    · have hf := (if_pos hc).symm.trans hf
      refine x_aload_n C dX12_compared_49 50 rfl 0 rfl rfl ?_
      refine x_lload_n C dX12_compared_50 51 rfl 1 rfl rfl ?_
      refine x_iload C dX12_compared_51 53 rfl 5 rfl ?_
      obtain ⟨w53, hw53, hf⟩ := x_bind hf
      refine x_callSi C dX12_compared_53 56 rfl (cX12_letterAtc hw53) kX12_letterAt ksX12_letterAt w1722 ⟨rfl, rfl⟩ ⟨Nat.le_of_ble_eq_true rfl, Nat.le_of_ble_eq_true rfl⟩ ⟨Nat.zero_le _, Nat.zero_le _⟩ rfl rfl (Nat.le_of_ble_eq_true rfl) ?_
      obtain ⟨o56, ho56, hf⟩ := x_bind hf
      obtain ⟨w56, hw56, hf⟩ := x_bind hf
      refine x_callVi C dX12_compared_56 59 rfl ho56 cl11.1 rfl (cX12_orderOfc hw56) kX12_orderOf kvX12_orderOf w1768 ⟨rfl, rfl⟩ ⟨Nat.le_of_ble_eq_true rfl, Nat.le_of_ble_eq_true rfl⟩ ⟨Nat.zero_le _, Nat.zero_le _⟩ rfl rfl (Nat.le_of_ble_eq_true rfl) ?_
      refine x_aload_n C dX12_compared_59 60 rfl 0 rfl rfl ?_
      refine x_lload_n C dX12_compared_60 61 rfl 2 rfl rfl ?_
      refine x_iload C dX12_compared_61 63 rfl 5 rfl ?_
      obtain ⟨w63, hw63, hf⟩ := x_bind hf
      refine x_callSi C dX12_compared_63 66 rfl (cX12_letterAtc hw63) kX12_letterAt ksX12_letterAt w1722 ⟨rfl, rfl⟩ ⟨Nat.le_of_ble_eq_true rfl, Nat.le_of_ble_eq_true rfl⟩ ⟨Nat.zero_le _, Nat.zero_le _⟩ rfl rfl (Nat.le_of_ble_eq_true rfl) ?_
      obtain ⟨o66, ho66, hf⟩ := x_bind hf
      obtain ⟨w66, hw66, hf⟩ := x_bind hf
      refine x_callVi C dX12_compared_66 69 rfl ho66 cl11.1 rfl (cX12_orderOfc hw66) kX12_orderOf kvX12_orderOf w1768 ⟨rfl, rfl⟩ ⟨Nat.le_of_ble_eq_true rfl, Nat.le_of_ble_eq_true rfl⟩ ⟨Nat.zero_le _, Nat.zero_le _⟩ rfl rfl (Nat.le_of_ble_eq_true rfl) ?_
      refine x_isub C dX12_compared_69 70 rfl ?_
      obtain ⟨v70, ev70, hf⟩ := xlet_some hf
      refine x_topi ev70 ?_
      refine x_istore C dX12_compared_70 72 rfl rfl [(5, .int (v70)), (0, .ref (x0)), (1, .long (x1)), (3, .long (x3)), (6, .int (x6)), (7, .int (a.2))] rfl ?_
      obtain ⟨v72, ev72, hf⟩ := xlet_some hf
      refine x_iinc C dX12_compared_72 75 rfl 5 rfl v72 ev72 rfl [(7, .int (v72)), (5, .int (v70)), (0, .ref (x0)), (1, .long (x1)), (3, .long (x3)), (6, .int (x6))] rfl ?_
      refine x_goto C dX12_compared_75 37 (by decide) ?_
      refine x_lv [2, 3, 4, 1, 5, 0] (lv' := [(0, .ref (x0)), (1, .long (x1)), (3, .long (x3)), (5, .int (v70)), (6, .int (x6)), (7, .int (v72))]) rfl ?_
      exact hK _ (Option.some.inj hf).symm
noncomputable def fX12_compared (σ : St) (x0 : Nat) (x1 : Int64) (x3 : Int64) : Option (Int32) :=
if (lg_cmp x1 x3) = 0 then
(some 0)
else
((isO σ x0 11).bind fun _ =>
(fX12_weightOf σ x0 x1).bind fun w10 =>
(isO σ x0 11).bind fun _ =>
(fX12_weightOf σ x0 x3).bind fun w15 =>
xlet (w10 - w15) fun v19 =>
(fX12_length x1).bind fun w22 =>
(fX12_length x3).bind fun w26 =>
xlet (imin w22 w26) fun v32 =>
(iterP (fLX12_compared_37 σ x0 x1 x3 v32) (v19, 0)).bind fun b37 =>
if b37 ≤ 0 then
(some (-1))
else
(some 1))
set_option maxHeartbeats 4000000 in
set_option maxRecDepth 100000 in
theorem cX12_comparedc {l : Launch} {G : xG} {A : Nat → Prop} {σ : St} {x0 : Nat} {x1 : Int64} {x3 : Int64} {c : Int32} (hf : fX12_compared σ x0 x1 x3 = some c) : Con l yX12_compared (xws yX12_compared cX12_compared 8 (some .int)) rmX12_compared [.ref (x0), .long (x1), .long (x3)] G A σ (some (.int c)) σ := by
  refine x_start rfl (Nat.le_of_ble_eq_true rfl) (fun X _ _ _ C hE0 => ?_)
  have hE : ∀ r, c = r → xE1 X (some (.int r)) σ := fun r e => e ▸ hE0
  show V X (0, 0) σ 0 [(0, .ref (x0)), (1, .long (x1)), (3, .long (x3))] []
  unfold fX12_compared at hf
  refine x_lload_n C dX12_compared_0 1 rfl 1 rfl rfl ?_
  refine x_lload_n C dX12_compared_1 2 rfl 2 rfl rfl ?_
  refine x_lcmp C dX12_compared_2 3 rfl ?_
  refine x_if_ne C dX12_compared_3 8 (by decide) 6 rfl (fun hc => ?_) (fun hc => ?_)
  · have hf := (if_neg hc).symm.trans hf
    refine x_aload_n C dX12_compared_8 9 rfl 0 rfl rfl ?_
    refine x_lload_n C dX12_compared_9 10 rfl 1 rfl rfl ?_
    obtain ⟨o10, ho10, hf⟩ := x_bind hf
    obtain ⟨w10, hw10, hf⟩ := x_bind hf
    refine x_callVi C dX12_compared_10 13 rfl ho10 cl11.1 rfl (cX12_weightOfc hw10) kX12_weightOf kvX12_weightOf w1764 ⟨rfl, rfl⟩ ⟨Nat.le_of_ble_eq_true rfl, Nat.le_of_ble_eq_true rfl⟩ ⟨Nat.zero_le _, Nat.zero_le _⟩ rfl rfl (Nat.le_of_ble_eq_true rfl) ?_
    refine x_aload_n C dX12_compared_13 14 rfl 0 rfl rfl ?_
    refine x_lload_n C dX12_compared_14 15 rfl 2 rfl rfl ?_
    obtain ⟨o15, ho15, hf⟩ := x_bind hf
    obtain ⟨w15, hw15, hf⟩ := x_bind hf
    refine x_callVi C dX12_compared_15 18 rfl ho15 cl11.1 rfl (cX12_weightOfc hw15) kX12_weightOf kvX12_weightOf w1764 ⟨rfl, rfl⟩ ⟨Nat.le_of_ble_eq_true rfl, Nat.le_of_ble_eq_true rfl⟩ ⟨Nat.zero_le _, Nat.zero_le _⟩ rfl rfl (Nat.le_of_ble_eq_true rfl) ?_
    refine x_isub C dX12_compared_18 19 rfl ?_
    obtain ⟨v19, ev19, hf⟩ := xlet_some hf
    refine x_topi ev19 ?_
    refine x_istore C dX12_compared_19 21 rfl rfl [(5, .int (v19)), (0, .ref (x0)), (1, .long (x1)), (3, .long (x3))] rfl ?_
    refine x_lload_n C dX12_compared_21 22 rfl 2 rfl rfl ?_
    obtain ⟨w22, hw22, hf⟩ := x_bind hf
    refine x_callSi C dX12_compared_22 25 rfl (cX12_lengthc hw22) kX12_length ksX12_length w1728 ⟨rfl, rfl⟩ ⟨Nat.le_of_ble_eq_true rfl, Nat.le_of_ble_eq_true rfl⟩ ⟨Nat.zero_le _, Nat.zero_le _⟩ rfl rfl (Nat.le_of_ble_eq_true rfl) ?_
    refine x_lload_n C dX12_compared_25 26 rfl 3 rfl rfl ?_
    obtain ⟨w26, hw26, hf⟩ := x_bind hf
    refine x_callSi C dX12_compared_26 29 rfl (cX12_lengthc hw26) kX12_length ksX12_length w1728 ⟨rfl, rfl⟩ ⟨Nat.le_of_ble_eq_true rfl, Nat.le_of_ble_eq_true rfl⟩ ⟨Nat.zero_le _, Nat.zero_le _⟩ rfl rfl (Nat.le_of_ble_eq_true rfl) ?_
    refine x_mmin C dX12_compared_29 32 rfl w1671 mminw ⟨Nat.le_of_ble_eq_true rfl, Nat.le_of_ble_eq_true rfl⟩ ⟨Nat.zero_le _, Nat.zero_le _⟩ ?_
    obtain ⟨v32, ev32, hf⟩ := xlet_some hf
    refine x_topi ev32 ?_
    refine x_istore C dX12_compared_32 34 rfl rfl [(6, .int (v32)), (5, .int (v19)), (0, .ref (x0)), (1, .long (x1)), (3, .long (x3))] rfl ?_
    refine x_iconst C dX12_compared_34 35 rfl 0 (by decide) ?_
    refine x_istore C dX12_compared_35 37 rfl rfl [(7, .int (0)), (6, .int (v32)), (5, .int (v19)), (0, .ref (x0)), (1, .long (x1)), (3, .long (x3))] rfl ?_
    obtain ⟨b37, hb37, hf⟩ := x_bind hf
    refine x_lv [3, 4, 5, 2, 1, 0] (lv' := [(0, .ref (x0)), (1, .long (x1)), (3, .long (x3)), (5, .int (v19)), (6, .int (v32)), (7, .int (0))]) rfl ?_
    refine lpX12_compared_37 C hb37 (fun s37 e37 => ?_)
    subst e37
    refine x_iload C dX12_compared_78 80 rfl 0 rfl ?_
    refine x_if_le C dX12_compared_80 87 (by decide) 83 rfl (fun hc => ?_) (fun hc => ?_)
    · have hf := (if_pos hc).symm.trans hf
      refine x_iconst C dX12_compared_87 88 rfl (-1) (by decide) ?_
      exact x_iret C (hE _ (Option.some.inj hf).symm) dX12_compared_88
    · have hf := (if_neg hc).symm.trans hf
      refine x_iconst C dX12_compared_83 84 rfl 1 (by decide) ?_
      refine x_goto C dX12_compared_84 88 (by decide) ?_
      exact x_iret C (hE _ (Option.some.inj hf).symm) dX12_compared_88
  · have hf := (if_pos hc).symm.trans hf
    refine x_iconst C dX12_compared_6 7 rfl 0 (by decide) ?_
    exact x_iret C (hE _ (Option.some.inj hf).symm) dX12_compared_7
theorem dX12_stepsIn_0 : decode cX12_stepsIn 0 = .ok (.aload_n 0, 1) := by decide +kernel
theorem dX12_stepsIn_1 : decode cX12_stepsIn 1 = .ok (.lload_n 1, 1) := by decide +kernel
theorem dX12_stepsIn_2 : decode cX12_stepsIn 2 = .ok (.iconst (-1), 1) := by decide +kernel
theorem dX12_stepsIn_3 : decode cX12_stepsIn 3 = .ok (.invokevirtual 305, 3) := by decide +kernel
theorem dX12_stepsIn_6 : decode cX12_stepsIn 6 = .ok (.pop, 1) := by decide +kernel
theorem dX12_stepsIn_7 : decode cX12_stepsIn 7 = .ok (.aload_n 0, 1) := by decide +kernel
theorem dX12_stepsIn_8 : decode cX12_stepsIn 8 = .ok (.getfield 282, 3) := by decide +kernel
theorem dX12_stepsIn_11 : decode cX12_stepsIn 11 = .ok (.ireturn, 1) := by decide +kernel
abbrev rmX12_stepsIn : Room := { frames := 5, cells := 0, slots := 0, locals := 129 }
noncomputable def fX12_stepsIn (σ : St) (x0 : Nat) (x1 : Int64) : Option ((Int32 × St)) :=
(isO σ x0 11).bind fun _ =>
(fX12_finds σ x0 x1 (-1)).bind fun w3 =>
(gI w3.2 x0 11 19).bind fun v8 =>
some (v8, w3.2)
set_option maxHeartbeats 4000000 in
set_option maxRecDepth 100000 in
theorem cX12_stepsInc {l : Launch} {G : xG} {A : Nat → Prop} {σ : St} {x0 : Nat} {x1 : Int64} {c : (Int32 × St)} (hf : fX12_stepsIn σ x0 x1 = some c) : Con l yX12_stepsIn (xws yX12_stepsIn cX12_stepsIn 3 (some .int)) rmX12_stepsIn [.ref (x0), .long (x1)] G A σ (some (.int c.1)) c.2 := by
  refine x_start rfl (Nat.le_of_ble_eq_true rfl) (fun X _ _ _ C hE0 => ?_)
  have hE : ∀ r, c = r → xE1 X (some (.int r.1)) r.2 := fun r e => e ▸ hE0
  show V X (0, 0) σ 0 [(0, .ref (x0)), (1, .long (x1))] []
  unfold fX12_stepsIn at hf
  refine x_aload_n C dX12_stepsIn_0 1 rfl 0 rfl rfl ?_
  refine x_lload_n C dX12_stepsIn_1 2 rfl 1 rfl rfl ?_
  refine x_iconst C dX12_stepsIn_2 3 rfl (-1) (by decide) ?_
  obtain ⟨o3, ho3, hf⟩ := x_bind hf
  obtain ⟨w3, hw3, hf⟩ := x_bind hf
  refine x_callVi C dX12_stepsIn_3 6 rfl ho3 cl11.1 rfl (cX12_findsc hw3) kX12_finds kvX12_finds w1810 ⟨rfl, rfl⟩ ⟨Nat.le_of_ble_eq_true rfl, Nat.le_of_ble_eq_true rfl⟩ ⟨Nat.zero_le _, Nat.zero_le _⟩ rfl rfl (Nat.le_of_ble_eq_true rfl) ?_
  refine x_pop C dX12_stepsIn_6 7 rfl rfl ?_
  refine x_aload_n C dX12_stepsIn_7 8 rfl 0 rfl rfl ?_
  obtain ⟨v8, hv8, hf⟩ := x_bind hf
  refine x_getI C dX12_stepsIn_8 11 rfl hv8 cl11 rfl w1462 ?_
  exact x_iret C (hE _ (Option.some.inj hf).symm) dX12_stepsIn_11
theorem dX12_stepBy_0 : decode cX12_stepBy 0 = .ok (.aload_n 0, 1) := by decide +kernel
theorem dX12_stepBy_1 : decode cX12_stepBy 1 = .ok (.lload_n 1, 1) := by decide +kernel
theorem dX12_stepBy_2 : decode cX12_stepBy 2 = .ok (.invokevirtual 309, 3) := by decide +kernel
theorem dX12_stepBy_5 : decode cX12_stepBy 5 = .ok (.istore 4, 2) := by decide +kernel
theorem dX12_stepBy_7 : decode cX12_stepBy 7 = .ok (.iload_n 3, 1) := by decide +kernel
theorem dX12_stepBy_8 : decode cX12_stepBy 8 = .ok (.iconst 2, 1) := by decide +kernel
theorem dX12_stepBy_9 : decode cX12_stepBy 9 = .ok (.if_icmp .ge 16, 3) := by decide +kernel
theorem dX12_stepBy_12 : decode cX12_stepBy 12 = .ok (.iload_n 3, 1) := by decide +kernel
theorem dX12_stepBy_13 : decode cX12_stepBy 13 = .ok (.ifCond .ne 7, 3) := by decide +kernel
theorem dX12_stepBy_16 : decode cX12_stepBy 16 = .ok (.iconst 0, 1) := by decide +kernel
theorem dX12_stepBy_17 : decode cX12_stepBy 17 = .ok (.goto 7, 3) := by decide +kernel
theorem dX12_stepBy_20 : decode cX12_stepBy 20 = .ok (.iload 4, 2) := by decide +kernel
theorem dX12_stepBy_22 : decode cX12_stepBy 22 = .ok (.iconst 1, 1) := by decide +kernel
theorem dX12_stepBy_23 : decode cX12_stepBy 23 = .ok (.isub, 1) := by decide +kernel
theorem dX12_stepBy_24 : decode cX12_stepBy 24 = .ok (.ireturn, 1) := by decide +kernel
theorem dX12_stepBy_25 : decode cX12_stepBy 25 = .ok (.iconst 0, 1) := by decide +kernel
theorem dX12_stepBy_26 : decode cX12_stepBy 26 = .ok (.istore 5, 2) := by decide +kernel
theorem dX12_stepBy_28 : decode cX12_stepBy 28 = .ok (.aload_n 0, 1) := by decide +kernel
theorem dX12_stepBy_29 : decode cX12_stepBy 29 = .ok (.lload_n 1, 1) := by decide +kernel
theorem dX12_stepBy_30 : decode cX12_stepBy 30 = .ok (.iconst 0, 1) := by decide +kernel
theorem dX12_stepBy_31 : decode cX12_stepBy 31 = .ok (.invokevirtual 305, 3) := by decide +kernel
theorem dX12_stepBy_34 : decode cX12_stepBy 34 = .ok (.pop, 1) := by decide +kernel
theorem dX12_stepBy_35 : decode cX12_stepBy 35 = .ok (.aload_n 0, 1) := by decide +kernel
theorem dX12_stepBy_36 : decode cX12_stepBy 36 = .ok (.getfield 301, 3) := by decide +kernel
theorem dX12_stepBy_39 : decode cX12_stepBy 39 = .ok (.lstore 6, 2) := by decide +kernel
theorem dX12_stepBy_41 : decode cX12_stepBy 41 = .ok (.iconst 1, 1) := by decide +kernel
theorem dX12_stepBy_42 : decode cX12_stepBy 42 = .ok (.istore 8, 2) := by decide +kernel
theorem dX12_stepBy_44 : decode cX12_stepBy 44 = .ok (.iload 8, 2) := by decide +kernel
theorem dX12_stepBy_46 : decode cX12_stepBy 46 = .ok (.iload 4, 2) := by decide +kernel
theorem dX12_stepBy_48 : decode cX12_stepBy 48 = .ok (.if_icmp .ge 40, 3) := by decide +kernel
theorem dX12_stepBy_51 : decode cX12_stepBy 51 = .ok (.aload_n 0, 1) := by decide +kernel
theorem dX12_stepBy_52 : decode cX12_stepBy 52 = .ok (.lload_n 1, 1) := by decide +kernel
theorem dX12_stepBy_53 : decode cX12_stepBy 53 = .ok (.iload 8, 2) := by decide +kernel
theorem dX12_stepBy_55 : decode cX12_stepBy 55 = .ok (.invokevirtual 305, 3) := by decide +kernel
theorem dX12_stepBy_58 : decode cX12_stepBy 58 = .ok (.pop, 1) := by decide +kernel
theorem dX12_stepBy_59 : decode cX12_stepBy 59 = .ok (.aload_n 0, 1) := by decide +kernel
theorem dX12_stepBy_60 : decode cX12_stepBy 60 = .ok (.lload 6, 2) := by decide +kernel
theorem dX12_stepBy_62 : decode cX12_stepBy 62 = .ok (.aload_n 0, 1) := by decide +kernel
theorem dX12_stepBy_63 : decode cX12_stepBy 63 = .ok (.getfield 301, 3) := by decide +kernel
theorem dX12_stepBy_66 : decode cX12_stepBy 66 = .ok (.invokevirtual 312, 3) := by decide +kernel
theorem dX12_stepBy_69 : decode cX12_stepBy 69 = .ok (.ifCond .le 13, 3) := by decide +kernel
theorem dX12_stepBy_72 : decode cX12_stepBy 72 = .ok (.iload 8, 2) := by decide +kernel
theorem dX12_stepBy_74 : decode cX12_stepBy 74 = .ok (.istore 5, 2) := by decide +kernel
theorem dX12_stepBy_76 : decode cX12_stepBy 76 = .ok (.aload_n 0, 1) := by decide +kernel
theorem dX12_stepBy_77 : decode cX12_stepBy 77 = .ok (.getfield 301, 3) := by decide +kernel
theorem dX12_stepBy_80 : decode cX12_stepBy 80 = .ok (.lstore 6, 2) := by decide +kernel
theorem dX12_stepBy_82 : decode cX12_stepBy 82 = .ok (.iinc 8 1, 3) := by decide +kernel
theorem dX12_stepBy_85 : decode cX12_stepBy 85 = .ok (.goto (-41), 3) := by decide +kernel
theorem dX12_stepBy_88 : decode cX12_stepBy 88 = .ok (.iload 5, 2) := by decide +kernel
theorem dX12_stepBy_90 : decode cX12_stepBy 90 = .ok (.ireturn, 1) := by decide +kernel
abbrev rmX12_stepBy : Room := { frames := 6, cells := 0, slots := 0, locals := 151 }
noncomputable def fLX12_stepBy_44 (x0 : Nat) (x1 : Int64) (x4 : Int32) (a : Int32 × Int64 × Int32 × St) : Option ((Int32 × Int64 × Int32 × St) ⊕ (Int32 × St)) :=
if x4 ≤ a.2.2.1 then
(some (Sum.inr (a.1, a.2.2.2)))
else
((isO a.2.2.2 x0 11).bind fun _ =>
(fX12_finds a.2.2.2 x0 x1 a.2.2.1).bind fun w55 =>
(gL w55.2 x0 11 18).bind fun v63 =>
(isO w55.2 x0 11).bind fun _ =>
(fX12_compared w55.2 x0 a.2.1 v63).bind fun w66 =>
if w66 ≤ 0 then
(xlet (a.2.2.1 + 1) fun v82 =>
some (Sum.inl (a.1, a.2.1, v82, w55.2)))
else
((gL w55.2 x0 11 18).bind fun v77 =>
xlet (a.2.2.1 + 1) fun v82 =>
some (Sum.inl (a.2.2.1, v77, v82, w55.2))))
set_option maxHeartbeats 4000000 in
set_option maxRecDepth 100000 in
theorem lpX12_stepBy_44 {X : xX} {x0 : Nat} {x1 : Int64} {x4 : Int32}  {a0 : Int32 × Int64 × Int32 × St} {b : Int32 × St} (C : Ok X cX12_stepBy 9 RX12 rmX12_stepBy (some .int)) (hb : iterP (fLX12_stepBy_44 x0 x1 x4) a0 = some b) (hy0 : ∀ s, b = s → V X (0, 0) s.2 88 [(5, .int (s.1))] []) : V X (0, 0) a0.2.2.2 44 [(0, .ref (x0)), (1, .long (x1)), (4, .int (x4)), (5, .int (a0.1)), (6, .long (a0.2.1)), (8, .int (a0.2.2.1))] [] := by
  obtain ⟨n, hn⟩ := iterP_some hb
  refine x_loop (P := fun a => V X (0, 0) a.2.2.2 44 [(0, .ref (x0)), (1, .long (x1)), (4, .int (x4)), (5, .int (a.1)), (6, .long (a.2.1)), (8, .int (a.2.2.1))] []) ?_ n a0 hn
  intro a c hf hK hxx
  have hx0 : ∀ s, c = Sum.inr s → V X (0, 0) s.2 88 [(5, .int (s.1))] [] := fun s e => hy0 s (hxx _ e).symm
  unfold fLX12_stepBy_44 at hf
  refine x_iload C dX12_stepBy_44 46 rfl 5 rfl ?_
  refine x_iload C dX12_stepBy_46 48 rfl 2 rfl ?_
  refine x_icmp_ge C dX12_stepBy_48 88 (by decide) 51 rfl (fun hc => ?_) (fun hc => ?_)
  · have hf := (if_pos hc).symm.trans hf
    refine x_lv [3] (lv' := [(5, .int (a.1))]) rfl ?_
    exact hx0 _ (Option.some.inj hf).symm
  · have hf := (if_neg hc).symm.trans hf
    refine x_aload_n C dX12_stepBy_51 52 rfl 0 rfl rfl ?_
    refine x_lload_n C dX12_stepBy_52 53 rfl 1 rfl rfl ?_
    refine x_iload C dX12_stepBy_53 55 rfl 5 rfl ?_
    obtain ⟨o55, ho55, hf⟩ := x_bind hf
    obtain ⟨w55, hw55, hf⟩ := x_bind hf
    refine x_callVi C dX12_stepBy_55 58 rfl ho55 cl11.1 rfl (cX12_findsc hw55) kX12_finds kvX12_finds w1810 ⟨rfl, rfl⟩ ⟨Nat.le_of_ble_eq_true rfl, Nat.le_of_ble_eq_true rfl⟩ ⟨Nat.zero_le _, Nat.zero_le _⟩ rfl rfl (Nat.le_of_ble_eq_true rfl) ?_
    refine x_pop C dX12_stepBy_58 59 rfl rfl ?_
    refine x_aload_n C dX12_stepBy_59 60 rfl 0 rfl rfl ?_
    refine x_lload C dX12_stepBy_60 62 rfl 4 rfl ?_
    refine x_aload_n C dX12_stepBy_62 63 rfl 0 rfl rfl ?_
    obtain ⟨v63, hv63, hf⟩ := x_bind hf
    refine x_getL C dX12_stepBy_63 66 rfl hv63 cl11 rfl w1461 ?_
    obtain ⟨o66, ho66, hf⟩ := x_bind hf
    obtain ⟨w66, hw66, hf⟩ := x_bind hf
    refine x_callVi C dX12_stepBy_66 69 rfl ho66 cl11.1 rfl (cX12_comparedc hw66) kX12_compared kvX12_compared w1760 ⟨rfl, rfl⟩ ⟨Nat.le_of_ble_eq_true rfl, Nat.le_of_ble_eq_true rfl⟩ ⟨Nat.zero_le _, Nat.zero_le _⟩ rfl rfl (Nat.le_of_ble_eq_true rfl) ?_
    refine x_if_le C dX12_stepBy_69 82 (by decide) 72 rfl (fun hc => ?_) (fun hc => ?_)
    · have hf := (if_pos hc).symm.trans hf
      obtain ⟨v82, ev82, hf⟩ := xlet_some hf
      refine x_iinc C dX12_stepBy_82 85 rfl 5 rfl v82 ev82 rfl [(8, .int (v82)), (0, .ref (x0)), (1, .long (x1)), (4, .int (x4)), (5, .int (a.1)), (6, .long (a.2.1))] rfl ?_
      refine x_goto C dX12_stepBy_85 44 (by decide) ?_
      refine x_lv [1, 2, 3, 4, 5, 0] (lv' := [(0, .ref (x0)), (1, .long (x1)), (4, .int (x4)), (5, .int (a.1)), (6, .long (a.2.1)), (8, .int (v82))]) rfl ?_
      exact hK _ (Option.some.inj hf).symm
    · have hf := (if_neg hc).symm.trans hf
      refine x_iload C dX12_stepBy_72 74 rfl 5 rfl ?_
      refine x_istore C dX12_stepBy_74 76 rfl rfl [(5, .int (a.2.2.1)), (0, .ref (x0)), (1, .long (x1)), (4, .int (x4)), (6, .long (a.2.1)), (8, .int (a.2.2.1))] rfl ?_
      refine x_aload_n C dX12_stepBy_76 77 rfl 1 rfl rfl ?_
      obtain ⟨v77, hv77, hf⟩ := x_bind hf
      refine x_getL C dX12_stepBy_77 80 rfl hv77 cl11 rfl w1461 ?_
      refine x_lstore C dX12_stepBy_80 82 rfl rfl [(6, .long (v77)), (5, .int (a.2.2.1)), (0, .ref (x0)), (1, .long (x1)), (4, .int (x4)), (8, .int (a.2.2.1))] rfl ?_
      obtain ⟨v82, ev82, hf⟩ := xlet_some hf
      refine x_iinc C dX12_stepBy_82 85 rfl 5 rfl v82 ev82 rfl [(8, .int (v82)), (6, .long (v77)), (5, .int (a.2.2.1)), (0, .ref (x0)), (1, .long (x1)), (4, .int (x4))] rfl ?_
      refine x_goto C dX12_stepBy_85 44 (by decide) ?_
      refine x_lv [3, 4, 5, 2, 1, 0] (lv' := [(0, .ref (x0)), (1, .long (x1)), (4, .int (x4)), (5, .int (a.2.2.1)), (6, .long (v77)), (8, .int (v82))]) rfl ?_
      exact hK _ (Option.some.inj hf).symm
noncomputable def fX12_stepBy (σ : St) (x0 : Nat) (x1 : Int64) (x3 : Int32) : Option ((Int32 × St)) :=
(isO σ x0 11).bind fun _ =>
(fX12_stepsIn σ x0 x1).bind fun w2 =>
if ((2 : Int32)) ≤ x3 then
((isO w2.2 x0 11).bind fun _ =>
(fX12_finds w2.2 x0 x1 0).bind fun w31 =>
(gL w31.2 x0 11 18).bind fun v36 =>
(iterP (fLX12_stepBy_44 x0 x1 w2.1) (0, v36, 1, w31.2)).bind fun b44 =>
some (b44.1, b44.2))
else
(if x3 = 0 then
(some (0, w2.2))
else
(some (w2.1 - 1, w2.2)))
set_option maxHeartbeats 4000000 in
set_option maxRecDepth 100000 in
theorem cX12_stepByc {l : Launch} {G : xG} {A : Nat → Prop} {σ : St} {x0 : Nat} {x1 : Int64} {x3 : Int32} {c : (Int32 × St)} (hf : fX12_stepBy σ x0 x1 x3 = some c) : Con l yX12_stepBy (xws yX12_stepBy cX12_stepBy 9 (some .int)) rmX12_stepBy [.ref (x0), .long (x1), .int (x3)] G A σ (some (.int c.1)) c.2 := by
  refine x_start rfl (Nat.le_of_ble_eq_true rfl) (fun X _ _ _ C hE0 => ?_)
  have hE : ∀ r, c = r → xE1 X (some (.int r.1)) r.2 := fun r e => e ▸ hE0
  show V X (0, 0) σ 0 [(0, .ref (x0)), (1, .long (x1)), (3, .int (x3))] []
  unfold fX12_stepBy at hf
  refine x_aload_n C dX12_stepBy_0 1 rfl 0 rfl rfl ?_
  refine x_lload_n C dX12_stepBy_1 2 rfl 1 rfl rfl ?_
  obtain ⟨o2, ho2, hf⟩ := x_bind hf
  obtain ⟨w2, hw2, hf⟩ := x_bind hf
  refine x_callVi C dX12_stepBy_2 5 rfl ho2 cl11.1 rfl (cX12_stepsInc hw2) kX12_stepsIn kvX12_stepsIn w1822 ⟨rfl, rfl⟩ ⟨Nat.le_of_ble_eq_true rfl, Nat.le_of_ble_eq_true rfl⟩ ⟨Nat.zero_le _, Nat.zero_le _⟩ rfl rfl (Nat.le_of_ble_eq_true rfl) ?_
  refine x_istore C dX12_stepBy_5 7 rfl rfl [(4, .int (w2.1)), (0, .ref (x0)), (1, .long (x1)), (3, .int (x3))] rfl ?_
  refine x_iload_n C dX12_stepBy_7 8 rfl 3 rfl rfl ?_
  refine x_iconst C dX12_stepBy_8 9 rfl 2 (by decide) ?_
  refine x_icmp_ge C dX12_stepBy_9 25 (by decide) 12 rfl (fun hc => ?_) (fun hc => ?_)
  · have hf := (if_pos hc).symm.trans hf
    refine x_iconst C dX12_stepBy_25 26 rfl 0 (by decide) ?_
    refine x_istore C dX12_stepBy_26 28 rfl rfl [(5, .int (0)), (4, .int (w2.1)), (0, .ref (x0)), (1, .long (x1)), (3, .int (x3))] rfl ?_
    refine x_aload_n C dX12_stepBy_28 29 rfl 2 rfl rfl ?_
    refine x_lload_n C dX12_stepBy_29 30 rfl 3 rfl rfl ?_
    refine x_iconst C dX12_stepBy_30 31 rfl 0 (by decide) ?_
    obtain ⟨o31, ho31, hf⟩ := x_bind hf
    obtain ⟨w31, hw31, hf⟩ := x_bind hf
    refine x_callVi C dX12_stepBy_31 34 rfl ho31 cl11.1 rfl (cX12_findsc hw31) kX12_finds kvX12_finds w1810 ⟨rfl, rfl⟩ ⟨Nat.le_of_ble_eq_true rfl, Nat.le_of_ble_eq_true rfl⟩ ⟨Nat.zero_le _, Nat.zero_le _⟩ rfl rfl (Nat.le_of_ble_eq_true rfl) ?_
    refine x_pop C dX12_stepBy_34 35 rfl rfl ?_
    refine x_aload_n C dX12_stepBy_35 36 rfl 2 rfl rfl ?_
    obtain ⟨v36, hv36, hf⟩ := x_bind hf
    refine x_getL C dX12_stepBy_36 39 rfl hv36 cl11 rfl w1461 ?_
    refine x_lstore C dX12_stepBy_39 41 rfl rfl [(6, .long (v36)), (5, .int (0)), (4, .int (w2.1)), (0, .ref (x0)), (1, .long (x1)), (3, .int (x3))] rfl ?_
    refine x_iconst C dX12_stepBy_41 42 rfl 1 (by decide) ?_
    refine x_istore C dX12_stepBy_42 44 rfl rfl [(8, .int (1)), (6, .long (v36)), (5, .int (0)), (4, .int (w2.1)), (0, .ref (x0)), (1, .long (x1)), (3, .int (x3))] rfl ?_
    obtain ⟨b44, hb44, hf⟩ := x_bind hf
    refine x_lv [4, 5, 3, 2, 1, 0] (lv' := [(0, .ref (x0)), (1, .long (x1)), (4, .int (w2.1)), (5, .int (0)), (6, .long (v36)), (8, .int (1))]) rfl ?_
    refine lpX12_stepBy_44 C hb44 (fun s44 e44 => ?_)
    subst e44
    refine x_iload C dX12_stepBy_88 90 rfl 0 rfl ?_
    exact x_iret C (hE _ (Option.some.inj hf).symm) dX12_stepBy_90
  · have hf := (if_neg hc).symm.trans hf
    refine x_iload_n C dX12_stepBy_12 13 rfl 3 rfl rfl ?_
    refine x_if_ne C dX12_stepBy_13 20 (by decide) 16 rfl (fun hc => ?_) (fun hc => ?_)
    · have hf := (if_neg hc).symm.trans hf
      refine x_iload C dX12_stepBy_20 22 rfl 0 rfl ?_
      refine x_iconst C dX12_stepBy_22 23 rfl 1 (by decide) ?_
      refine x_isub C dX12_stepBy_23 24 rfl ?_
      exact x_iret C (hE _ (Option.some.inj hf).symm) dX12_stepBy_24
    · have hf := (if_pos hc).symm.trans hf
      refine x_iconst C dX12_stepBy_16 17 rfl 0 (by decide) ?_
      refine x_goto C dX12_stepBy_17 24 (by decide) ?_
      exact x_iret C (hE _ (Option.some.inj hf).symm) dX12_stepBy_24
theorem dX12_wasAhead_0 : decode cX12_wasAhead 0 = .ok (.iconst 0, 1) := by decide +kernel
theorem dX12_wasAhead_1 : decode cX12_wasAhead 1 = .ok (.istore_n 3, 1) := by decide +kernel
theorem dX12_wasAhead_2 : decode cX12_wasAhead 2 = .ok (.iload_n 3, 1) := by decide +kernel
theorem dX12_wasAhead_3 : decode cX12_wasAhead 3 = .ok (.aload_n 0, 1) := by decide +kernel
theorem dX12_wasAhead_4 : decode cX12_wasAhead 4 = .ok (.getfield 316, 3) := by decide +kernel
theorem dX12_wasAhead_7 : decode cX12_wasAhead 7 = .ok (.if_icmp .ge 22, 3) := by decide +kernel
theorem dX12_wasAhead_10 : decode cX12_wasAhead 10 = .ok (.aload_n 0, 1) := by decide +kernel
theorem dX12_wasAhead_11 : decode cX12_wasAhead 11 = .ok (.getfield 33, 3) := by decide +kernel
theorem dX12_wasAhead_14 : decode cX12_wasAhead 14 = .ok (.iload_n 3, 1) := by decide +kernel
theorem dX12_wasAhead_15 : decode cX12_wasAhead 15 = .ok (.laload, 1) := by decide +kernel
theorem dX12_wasAhead_16 : decode cX12_wasAhead 16 = .ok (.lload_n 1, 1) := by decide +kernel
theorem dX12_wasAhead_17 : decode cX12_wasAhead 17 = .ok (.lcmp, 1) := by decide +kernel
theorem dX12_wasAhead_18 : decode cX12_wasAhead 18 = .ok (.ifCond .ne 5, 3) := by decide +kernel
theorem dX12_wasAhead_21 : decode cX12_wasAhead 21 = .ok (.iconst 1, 1) := by decide +kernel
theorem dX12_wasAhead_22 : decode cX12_wasAhead 22 = .ok (.ireturn, 1) := by decide +kernel
theorem dX12_wasAhead_23 : decode cX12_wasAhead 23 = .ok (.iinc 3 1, 3) := by decide +kernel
theorem dX12_wasAhead_26 : decode cX12_wasAhead 26 = .ok (.goto (-24), 3) := by decide +kernel
theorem dX12_wasAhead_29 : decode cX12_wasAhead 29 = .ok (.iconst 0, 1) := by decide +kernel
theorem dX12_wasAhead_30 : decode cX12_wasAhead 30 = .ok (.ireturn, 1) := by decide +kernel
abbrev rmX12_wasAhead : Room := { frames := 0, cells := 0, slots := 0, locals := 0 }
noncomputable def fLX12_wasAhead_2 (σ : St) (x0 : Nat) (x1 : Int64) (a : Int32) : Option ((Int32) ⊕ ((Unit) ⊕ (Unit))) :=
(gI σ x0 11 23).bind fun v4 =>
if v4 ≤ a then
(some (Sum.inr (Sum.inr ())))
else
((gR σ x0 11 20).bind fun v11 =>
(aL σ v11 a).bind fun v15 =>
if (lg_cmp v15 x1) = 0 then
(some (Sum.inr (Sum.inl ())))
else
(xlet (a + 1) fun v23 =>
some (Sum.inl v23)))
set_option maxHeartbeats 4000000 in
set_option maxRecDepth 100000 in
theorem lpX12_wasAhead_2 {X : xX} {σ : St} {x0 : Nat} {x1 : Int64}  {a0 : Int32} {b : (Unit) ⊕ (Unit)} (C : Ok X cX12_wasAhead 4 RX12 rmX12_wasAhead (some .boolean)) (hb : iterP (fLX12_wasAhead_2 σ x0 x1) a0 = some b) (hy0 : ∀ s, b = (Sum.inl s) → V X (0, 0) σ 21 [] []) (hy1 : ∀ s, b = (Sum.inr s) → V X (0, 0) σ 29 [] []) : V X (0, 0) σ 2 [(0, .ref (x0)), (1, .long (x1)), (3, .int (a0))] [] := by
  obtain ⟨n, hn⟩ := iterP_some hb
  refine x_loop (P := fun a => V X (0, 0) σ 2 [(0, .ref (x0)), (1, .long (x1)), (3, .int (a))] []) ?_ n a0 hn
  intro a c hf hK hxx
  have hx0 : ∀ s, c = Sum.inr (Sum.inl s) → V X (0, 0) σ 21 [] [] := fun s e => hy0 s (hxx _ e).symm
  have hx1 : ∀ s, c = Sum.inr (Sum.inr s) → V X (0, 0) σ 29 [] [] := fun s e => hy1 s (hxx _ e).symm
  unfold fLX12_wasAhead_2 at hf
  refine x_iload_n C dX12_wasAhead_2 3 rfl 2 rfl rfl ?_
  refine x_aload_n C dX12_wasAhead_3 4 rfl 0 rfl rfl ?_
  obtain ⟨v4, hv4, hf⟩ := x_bind hf
  refine x_getI C dX12_wasAhead_4 7 rfl hv4 cl11 rfl w1466 ?_
  refine x_icmp_ge C dX12_wasAhead_7 29 (by decide) 10 rfl (fun hc => ?_) (fun hc => ?_)
  · have hf := (if_pos hc).symm.trans hf
    refine x_lv [] (lv' := []) rfl ?_
    exact hx1 _ (Option.some.inj hf).symm
  · have hf := (if_neg hc).symm.trans hf
    refine x_aload_n C dX12_wasAhead_10 11 rfl 0 rfl rfl ?_
    obtain ⟨v11, hv11, hf⟩ := x_bind hf
    refine x_getR C dX12_wasAhead_11 14 rfl hv11 cl11 rfl w1463 ?_
    refine x_iload_n C dX12_wasAhead_14 15 rfl 2 rfl rfl ?_
    obtain ⟨v15, hv15, hf⟩ := x_bind hf
    refine x_laload C dX12_wasAhead_15 16 rfl hv15 ?_
    refine x_lload_n C dX12_wasAhead_16 17 rfl 1 rfl rfl ?_
    refine x_lcmp C dX12_wasAhead_17 18 rfl ?_
    refine x_if_ne C dX12_wasAhead_18 23 (by decide) 21 rfl (fun hc => ?_) (fun hc => ?_)
    · have hf := (if_neg hc).symm.trans hf
      obtain ⟨v23, ev23, hf⟩ := xlet_some hf
      refine x_iinc C dX12_wasAhead_23 26 rfl 2 rfl v23 ev23 rfl [(3, .int (v23)), (0, .ref (x0)), (1, .long (x1))] rfl ?_
      refine x_goto C dX12_wasAhead_26 2 (by decide) ?_
      refine x_lv [1, 2, 0] (lv' := [(0, .ref (x0)), (1, .long (x1)), (3, .int (v23))]) rfl ?_
      exact hK _ (Option.some.inj hf).symm
    · have hf := (if_pos hc).symm.trans hf
      refine x_lv [] (lv' := []) rfl ?_
      exact hx0 _ (Option.some.inj hf).symm
noncomputable def fX12_wasAhead (σ : St) (x0 : Nat) (x1 : Int64) : Option (Int32) :=
(iterP (fLX12_wasAhead_2 σ x0 x1) 0).bind fun b2 =>
(match b2 with
| .inl s2 =>
some 1
| .inr s2 =>
some 0)
set_option maxHeartbeats 4000000 in
set_option maxRecDepth 100000 in
theorem cX12_wasAheadc {l : Launch} {G : xG} {A : Nat → Prop} {σ : St} {x0 : Nat} {x1 : Int64} {c : Int32} (hf : fX12_wasAhead σ x0 x1 = some c) : Con l yX12_wasAhead (xws yX12_wasAhead cX12_wasAhead 4 (some .boolean)) rmX12_wasAhead [.ref (x0), .long (x1)] G A σ (some (.int c)) σ := by
  refine x_start rfl (Nat.le_of_ble_eq_true rfl) (fun X _ _ _ C hE0 => ?_)
  have hE : ∀ r, c = r → xE1 X (some (.int r)) σ := fun r e => e ▸ hE0
  show V X (0, 0) σ 0 [(0, .ref (x0)), (1, .long (x1))] []
  unfold fX12_wasAhead at hf
  refine x_iconst C dX12_wasAhead_0 1 rfl 0 (by decide) ?_
  refine x_istore_n C dX12_wasAhead_1 2 rfl rfl rfl [(3, .int (0)), (0, .ref (x0)), (1, .long (x1))] rfl ?_
  obtain ⟨b2, hb2, hf⟩ := x_bind hf
  refine x_lv [1, 2, 0] (lv' := [(0, .ref (x0)), (1, .long (x1)), (3, .int (0))]) rfl ?_
  refine lpX12_wasAhead_2 C hb2 (fun s2 e2 => ?_) (fun s2 e2 => ?_)
  · subst e2
    try dsimp only at hf
    refine x_iconst C dX12_wasAhead_21 22 rfl 1 (by decide) ?_
    exact x_zret C rfl (hE _ (Option.some.inj hf).symm) dX12_wasAhead_22
  · subst e2
    try dsimp only at hf
    refine x_iconst C dX12_wasAhead_29 30 rfl 0 (by decide) ?_
    exact x_zret C rfl (hE _ (Option.some.inj hf).symm) dX12_wasAhead_30
theorem dX12_runs_0 : decode cX12_runs 0 = .ok (.aload_n 0, 1) := by decide +kernel
theorem dX12_runs_1 : decode cX12_runs 1 = .ok (.iconst 0, 1) := by decide +kernel
theorem dX12_runs_2 : decode cX12_runs 2 = .ok (.putfield 316, 3) := by decide +kernel
theorem dX12_runs_5 : decode cX12_runs 5 = .ok (.aload_n 0, 1) := by decide +kernel
theorem dX12_runs_6 : decode cX12_runs 6 = .ok (.getfield 33, 3) := by decide +kernel
theorem dX12_runs_9 : decode cX12_runs 9 = .ok (.iconst 0, 1) := by decide +kernel
theorem dX12_runs_10 : decode cX12_runs 10 = .ok (.lload_n 1, 1) := by decide +kernel
theorem dX12_runs_11 : decode cX12_runs 11 = .ok (.lastore, 1) := by decide +kernel
theorem dX12_runs_12 : decode cX12_runs 12 = .ok (.aload_n 0, 1) := by decide +kernel
theorem dX12_runs_13 : decode cX12_runs 13 = .ok (.iconst (-1), 1) := by decide +kernel
theorem dX12_runs_14 : decode cX12_runs 14 = .ok (.putfield 319, 3) := by decide +kernel
theorem dX12_runs_17 : decode cX12_runs 17 = .ok (.aload_n 0, 1) := by decide +kernel
theorem dX12_runs_18 : decode cX12_runs 18 = .ok (.getfield 319, 3) := by decide +kernel
theorem dX12_runs_21 : decode cX12_runs 21 = .ok (.iconst (-1), 1) := by decide +kernel
theorem dX12_runs_22 : decode cX12_runs 22 = .ok (.if_icmp .ne 131, 3) := by decide +kernel
theorem dX12_runs_25 : decode cX12_runs 25 = .ok (.aload_n 0, 1) := by decide +kernel
theorem dX12_runs_26 : decode cX12_runs 26 = .ok (.getfield 33, 3) := by decide +kernel
theorem dX12_runs_29 : decode cX12_runs 29 = .ok (.aload_n 0, 1) := by decide +kernel
theorem dX12_runs_30 : decode cX12_runs 30 = .ok (.getfield 316, 3) := by decide +kernel
theorem dX12_runs_33 : decode cX12_runs 33 = .ok (.laload, 1) := by decide +kernel
theorem dX12_runs_34 : decode cX12_runs 34 = .ok (.lstore 4, 2) := by decide +kernel
theorem dX12_runs_36 : decode cX12_runs 36 = .ok (.aload_n 0, 1) := by decide +kernel
theorem dX12_runs_37 : decode cX12_runs 37 = .ok (.lload 4, 2) := by decide +kernel
theorem dX12_runs_39 : decode cX12_runs 39 = .ok (.invokevirtual 322, 3) := by decide +kernel
theorem dX12_runs_42 : decode cX12_runs 42 = .ok (.ifCond .eq 11, 3) := by decide +kernel
theorem dX12_runs_45 : decode cX12_runs 45 = .ok (.aload_n 0, 1) := by decide +kernel
theorem dX12_runs_46 : decode cX12_runs 46 = .ok (.iconst 0, 1) := by decide +kernel
theorem dX12_runs_47 : decode cX12_runs 47 = .ok (.putfield 319, 3) := by decide +kernel
theorem dX12_runs_50 : decode cX12_runs 50 = .ok (.goto 100, 3) := by decide +kernel
theorem dX12_runs_53 : decode cX12_runs 53 = .ok (.aload_n 0, 1) := by decide +kernel
theorem dX12_runs_54 : decode cX12_runs 54 = .ok (.lload 4, 2) := by decide +kernel
theorem dX12_runs_56 : decode cX12_runs 56 = .ok (.invokevirtual 326, 3) := by decide +kernel
theorem dX12_runs_59 : decode cX12_runs 59 = .ok (.ifCond .eq 11, 3) := by decide +kernel
theorem dX12_runs_62 : decode cX12_runs 62 = .ok (.aload_n 0, 1) := by decide +kernel
theorem dX12_runs_63 : decode cX12_runs 63 = .ok (.iconst 1, 1) := by decide +kernel
theorem dX12_runs_64 : decode cX12_runs 64 = .ok (.putfield 319, 3) := by decide +kernel
theorem dX12_runs_67 : decode cX12_runs 67 = .ok (.goto 83, 3) := by decide +kernel
theorem dX12_runs_70 : decode cX12_runs 70 = .ok (.aload_n 0, 1) := by decide +kernel
theorem dX12_runs_71 : decode cX12_runs 71 = .ok (.getfield 316, 3) := by decide +kernel
theorem dX12_runs_74 : decode cX12_runs 74 = .ok (.bipush 60, 2) := by decide +kernel
theorem dX12_runs_76 : decode cX12_runs 76 = .ok (.if_icmp .ne 11, 3) := by decide +kernel
theorem dX12_runs_79 : decode cX12_runs 79 = .ok (.aload_n 0, 1) := by decide +kernel
theorem dX12_runs_80 : decode cX12_runs 80 = .ok (.iconst 2, 1) := by decide +kernel
theorem dX12_runs_81 : decode cX12_runs 81 = .ok (.putfield 319, 3) := by decide +kernel
theorem dX12_runs_84 : decode cX12_runs 84 = .ok (.goto 66, 3) := by decide +kernel
theorem dX12_runs_87 : decode cX12_runs 87 = .ok (.aload_n 0, 1) := by decide +kernel
theorem dX12_runs_88 : decode cX12_runs 88 = .ok (.lload 4, 2) := by decide +kernel
theorem dX12_runs_90 : decode cX12_runs 90 = .ok (.aload_n 0, 1) := by decide +kernel
theorem dX12_runs_91 : decode cX12_runs 91 = .ok (.lload 4, 2) := by decide +kernel
theorem dX12_runs_93 : decode cX12_runs 93 = .ok (.iload_n 3, 1) := by decide +kernel
theorem dX12_runs_94 : decode cX12_runs 94 = .ok (.invokevirtual 329, 3) := by decide +kernel
theorem dX12_runs_97 : decode cX12_runs 97 = .ok (.invokevirtual 305, 3) := by decide +kernel
theorem dX12_runs_100 : decode cX12_runs 100 = .ok (.pop, 1) := by decide +kernel
theorem dX12_runs_101 : decode cX12_runs 101 = .ok (.aload_n 0, 1) := by decide +kernel
theorem dX12_runs_102 : decode cX12_runs 102 = .ok (.getfield 36, 3) := by decide +kernel
theorem dX12_runs_105 : decode cX12_runs 105 = .ok (.aload_n 0, 1) := by decide +kernel
theorem dX12_runs_106 : decode cX12_runs 106 = .ok (.getfield 316, 3) := by decide +kernel
theorem dX12_runs_109 : decode cX12_runs 109 = .ok (.aload_n 0, 1) := by decide +kernel
theorem dX12_runs_110 : decode cX12_runs 110 = .ok (.getfield 295, 3) := by decide +kernel
theorem dX12_runs_113 : decode cX12_runs 113 = .ok (.iastore, 1) := by decide +kernel
theorem dX12_runs_114 : decode cX12_runs 114 = .ok (.aload_n 0, 1) := by decide +kernel
theorem dX12_runs_115 : decode cX12_runs 115 = .ok (.getfield 40, 3) := by decide +kernel
theorem dX12_runs_118 : decode cX12_runs 118 = .ok (.aload_n 0, 1) := by decide +kernel
theorem dX12_runs_119 : decode cX12_runs 119 = .ok (.getfield 316, 3) := by decide +kernel
theorem dX12_runs_122 : decode cX12_runs 122 = .ok (.aload_n 0, 1) := by decide +kernel
theorem dX12_runs_123 : decode cX12_runs 123 = .ok (.getfield 298, 3) := by decide +kernel
theorem dX12_runs_126 : decode cX12_runs 126 = .ok (.iastore, 1) := by decide +kernel
theorem dX12_runs_127 : decode cX12_runs 127 = .ok (.aload_n 0, 1) := by decide +kernel
theorem dX12_runs_128 : decode cX12_runs 128 = .ok (.dup, 1) := by decide +kernel
theorem dX12_runs_129 : decode cX12_runs 129 = .ok (.getfield 316, 3) := by decide +kernel
theorem dX12_runs_132 : decode cX12_runs 132 = .ok (.iconst 1, 1) := by decide +kernel
theorem dX12_runs_133 : decode cX12_runs 133 = .ok (.iadd, 1) := by decide +kernel
theorem dX12_runs_134 : decode cX12_runs 134 = .ok (.putfield 316, 3) := by decide +kernel
theorem dX12_runs_137 : decode cX12_runs 137 = .ok (.aload_n 0, 1) := by decide +kernel
theorem dX12_runs_138 : decode cX12_runs 138 = .ok (.getfield 33, 3) := by decide +kernel
theorem dX12_runs_141 : decode cX12_runs 141 = .ok (.aload_n 0, 1) := by decide +kernel
theorem dX12_runs_142 : decode cX12_runs 142 = .ok (.getfield 316, 3) := by decide +kernel
theorem dX12_runs_145 : decode cX12_runs 145 = .ok (.aload_n 0, 1) := by decide +kernel
theorem dX12_runs_146 : decode cX12_runs 146 = .ok (.getfield 301, 3) := by decide +kernel
theorem dX12_runs_149 : decode cX12_runs 149 = .ok (.lastore, 1) := by decide +kernel
theorem dX12_runs_150 : decode cX12_runs 150 = .ok (.goto (-133), 3) := by decide +kernel
theorem dX12_runs_153 : decode cX12_runs 153 = .ok (.aload_n 0, 1) := by decide +kernel
theorem dX12_runs_154 : decode cX12_runs 154 = .ok (.getfield 33, 3) := by decide +kernel
theorem dX12_runs_157 : decode cX12_runs 157 = .ok (.aload_n 0, 1) := by decide +kernel
theorem dX12_runs_158 : decode cX12_runs 158 = .ok (.getfield 316, 3) := by decide +kernel
theorem dX12_runs_161 : decode cX12_runs 161 = .ok (.laload, 1) := by decide +kernel
theorem dX12_runs_162 : decode cX12_runs 162 = .ok (.lreturn, 1) := by decide +kernel
abbrev rmX12_runs : Room := { frames := 7, cells := 0, slots := 0, locals := 179 }
noncomputable def fLX12_runs_17 (x0 : Nat) (x3 : Int32) (a : St) : Option ((St) ⊕ (St)) :=
(gI a x0 11 24).bind fun v18 =>
if v18 = (((-1) : Int32)) then
((gR a x0 11 20).bind fun v26 =>
(gI a x0 11 23).bind fun v30 =>
(aL a v26 v30).bind fun v33 =>
(isO a x0 11).bind fun _ =>
(fX12_isNormal a x0 v33).bind fun w39 =>
if w39.1 = 0 then
((isO w39.2 x0 11).bind fun _ =>
(fX12_wasAhead w39.2 x0 v33).bind fun w56 =>
if w56 = 0 then
((gI w39.2 x0 11 23).bind fun v71 =>
if v71 = ((60 : Int32)) then
((wrF w39.2 x0 11 24 (.int (2))).bind fun σ81 =>
some (Sum.inl σ81))
else
((isO w39.2 x0 11).bind fun _ =>
(fX12_stepBy w39.2 x0 v33 x3).bind fun w94 =>
(isO w94.2 x0 11).bind fun _ =>
(fX12_finds w94.2 x0 v33 w94.1).bind fun w97 =>
(gR w97.2 x0 11 21).bind fun v102 =>
(gI w97.2 x0 11 23).bind fun v106 =>
(gI w97.2 x0 11 16).bind fun v110 =>
(sI w97.2 v102 v106 v110).bind fun σ113 =>
(gR σ113 x0 11 22).bind fun v115 =>
(gI σ113 x0 11 23).bind fun v119 =>
(gI σ113 x0 11 17).bind fun v123 =>
(sI σ113 v115 v119 v123).bind fun σ126 =>
(gI σ126 x0 11 23).bind fun v129 =>
(wrF σ126 x0 11 23 (.int (v129 + 1))).bind fun σ134 =>
(gR σ134 x0 11 20).bind fun v138 =>
(gI σ134 x0 11 23).bind fun v142 =>
(gL σ134 x0 11 18).bind fun v146 =>
(sL σ134 v138 v142 v146).bind fun σ149 =>
some (Sum.inl σ149)))
else
((wrF w39.2 x0 11 24 (.int (1))).bind fun σ64 =>
some (Sum.inl σ64)))
else
((wrF w39.2 x0 11 24 (.int (0))).bind fun σ47 =>
some (Sum.inl σ47)))
else
(some (Sum.inr a))
set_option maxHeartbeats 4000000 in
set_option maxRecDepth 100000 in
theorem lpX12_runs_17 {X : xX} {x0 : Nat} {x3 : Int32}  {a0 : St} {b : St} (C : Ok X cX12_runs 6 RX12 rmX12_runs (some .long)) (hb : iterP (fLX12_runs_17 x0 x3) a0 = some b) (hy0 : ∀ s, b = s → V X (0, 0) s 153 [(0, .ref (x0))] []) : V X (0, 0) a0 17 [(0, .ref (x0)), (3, .int (x3))] [] := by
  obtain ⟨n, hn⟩ := iterP_some hb
  refine x_loop (P := fun a => V X (0, 0) a 17 [(0, .ref (x0)), (3, .int (x3))] []) ?_ n a0 hn
  intro a c hf hK hxx
  have hx0 : ∀ s, c = Sum.inr s → V X (0, 0) s 153 [(0, .ref (x0))] [] := fun s e => hy0 s (hxx _ e).symm
  unfold fLX12_runs_17 at hf
  refine x_aload_n C dX12_runs_17 18 rfl 0 rfl rfl ?_
  obtain ⟨v18, hv18, hf⟩ := x_bind hf
  refine x_getI C dX12_runs_18 21 rfl hv18 cl11 rfl w1467 ?_
  refine x_iconst C dX12_runs_21 22 rfl (-1) (by decide) ?_
  refine x_icmp_ne C dX12_runs_22 153 (by decide) 25 rfl (fun hc => ?_) (fun hc => ?_)
  · have hf := (if_neg hc).symm.trans hf
    refine x_lv [0] (lv' := [(0, .ref (x0))]) rfl ?_
    exact hx0 _ (Option.some.inj hf).symm
  · have hf := (if_pos hc).symm.trans hf
    refine x_aload_n C dX12_runs_25 26 rfl 0 rfl rfl ?_
    obtain ⟨v26, hv26, hf⟩ := x_bind hf
    refine x_getR C dX12_runs_26 29 rfl hv26 cl11 rfl w1463 ?_
    refine x_aload_n C dX12_runs_29 30 rfl 0 rfl rfl ?_
    obtain ⟨v30, hv30, hf⟩ := x_bind hf
    refine x_getI C dX12_runs_30 33 rfl hv30 cl11 rfl w1466 ?_
    obtain ⟨v33, hv33, hf⟩ := x_bind hf
    refine x_laload C dX12_runs_33 34 rfl hv33 ?_
    refine x_lstore C dX12_runs_34 36 rfl rfl [(4, .long (v33)), (0, .ref (x0)), (3, .int (x3))] rfl ?_
    refine x_aload_n C dX12_runs_36 37 rfl 1 rfl rfl ?_
    refine x_lload C dX12_runs_37 39 rfl 0 rfl ?_
    obtain ⟨o39, ho39, hf⟩ := x_bind hf
    obtain ⟨w39, hw39, hf⟩ := x_bind hf
    refine x_callVi C dX12_runs_39 42 rfl ho39 cl11.1 rfl (cX12_isNormalc hw39) kX12_isNormal kvX12_isNormal w1806 ⟨rfl, rfl⟩ ⟨Nat.le_of_ble_eq_true rfl, Nat.le_of_ble_eq_true rfl⟩ ⟨Nat.zero_le _, Nat.zero_le _⟩ rfl rfl (Nat.le_of_ble_eq_true rfl) ?_
    refine x_if_eq C dX12_runs_42 53 (by decide) 45 rfl (fun hc => ?_) (fun hc => ?_)
    · have hf := (if_pos hc).symm.trans hf
      refine x_aload_n C dX12_runs_53 54 rfl 1 rfl rfl ?_
      refine x_lload C dX12_runs_54 56 rfl 0 rfl ?_
      obtain ⟨o56, ho56, hf⟩ := x_bind hf
      obtain ⟨w56, hw56, hf⟩ := x_bind hf
      refine x_callVi C dX12_runs_56 59 rfl ho56 cl11.1 rfl (cX12_wasAheadc hw56) kX12_wasAhead kvX12_wasAhead w1814 ⟨rfl, rfl⟩ ⟨Nat.le_of_ble_eq_true rfl, Nat.le_of_ble_eq_true rfl⟩ ⟨Nat.zero_le _, Nat.zero_le _⟩ rfl rfl (Nat.le_of_ble_eq_true rfl) ?_
      refine x_if_eq C dX12_runs_59 70 (by decide) 62 rfl (fun hc => ?_) (fun hc => ?_)
      · have hf := (if_pos hc).symm.trans hf
        refine x_aload_n C dX12_runs_70 71 rfl 1 rfl rfl ?_
        obtain ⟨v71, hv71, hf⟩ := x_bind hf
        refine x_getI C dX12_runs_71 74 rfl hv71 cl11 rfl w1466 ?_
        refine x_bipush C dX12_runs_74 76 rfl 60 (by decide) ?_
        refine x_icmp_ne C dX12_runs_76 87 (by decide) 79 rfl (fun hc => ?_) (fun hc => ?_)
        · have hf := (if_neg hc).symm.trans hf
          refine x_aload_n C dX12_runs_87 88 rfl 1 rfl rfl ?_
          refine x_lload C dX12_runs_88 90 rfl 0 rfl ?_
          refine x_aload_n C dX12_runs_90 91 rfl 1 rfl rfl ?_
          refine x_lload C dX12_runs_91 93 rfl 0 rfl ?_
          refine x_iload_n C dX12_runs_93 94 rfl 2 rfl rfl ?_
          obtain ⟨o94, ho94, hf⟩ := x_bind hf
          obtain ⟨w94, hw94, hf⟩ := x_bind hf
          refine x_callVi C dX12_runs_94 97 rfl ho94 cl11.1 rfl (cX12_stepByc hw94) kX12_stepBy kvX12_stepBy w1818 ⟨rfl, rfl⟩ ⟨Nat.le_of_ble_eq_true rfl, Nat.le_of_ble_eq_true rfl⟩ ⟨Nat.zero_le _, Nat.zero_le _⟩ rfl rfl (Nat.le_of_ble_eq_true rfl) ?_
          obtain ⟨o97, ho97, hf⟩ := x_bind hf
          obtain ⟨w97, hw97, hf⟩ := x_bind hf
          refine x_callVi C dX12_runs_97 100 rfl ho97 cl11.1 rfl (cX12_findsc hw97) kX12_finds kvX12_finds w1810 ⟨rfl, rfl⟩ ⟨Nat.le_of_ble_eq_true rfl, Nat.le_of_ble_eq_true rfl⟩ ⟨Nat.zero_le _, Nat.zero_le _⟩ rfl rfl (Nat.le_of_ble_eq_true rfl) ?_
          refine x_pop C dX12_runs_100 101 rfl rfl ?_
          refine x_aload_n C dX12_runs_101 102 rfl 1 rfl rfl ?_
          obtain ⟨v102, hv102, hf⟩ := x_bind hf
          refine x_getR C dX12_runs_102 105 rfl hv102 cl11 rfl w1464 ?_
          refine x_aload_n C dX12_runs_105 106 rfl 1 rfl rfl ?_
          obtain ⟨v106, hv106, hf⟩ := x_bind hf
          refine x_getI C dX12_runs_106 109 rfl hv106 cl11 rfl w1466 ?_
          refine x_aload_n C dX12_runs_109 110 rfl 1 rfl rfl ?_
          obtain ⟨v110, hv110, hf⟩ := x_bind hf
          refine x_getI C dX12_runs_110 113 rfl hv110 cl11 rfl w1459 ?_
          obtain ⟨σ113, hσ113, hf⟩ := x_bind hf
          refine x_iastore C dX12_runs_113 114 rfl hσ113 ?_
          refine x_aload_n C dX12_runs_114 115 rfl 1 rfl rfl ?_
          obtain ⟨v115, hv115, hf⟩ := x_bind hf
          refine x_getR C dX12_runs_115 118 rfl hv115 cl11 rfl w1465 ?_
          refine x_aload_n C dX12_runs_118 119 rfl 1 rfl rfl ?_
          obtain ⟨v119, hv119, hf⟩ := x_bind hf
          refine x_getI C dX12_runs_119 122 rfl hv119 cl11 rfl w1466 ?_
          refine x_aload_n C dX12_runs_122 123 rfl 1 rfl rfl ?_
          obtain ⟨v123, hv123, hf⟩ := x_bind hf
          refine x_getI C dX12_runs_123 126 rfl hv123 cl11 rfl w1460 ?_
          obtain ⟨σ126, hσ126, hf⟩ := x_bind hf
          refine x_iastore C dX12_runs_126 127 rfl hσ126 ?_
          refine x_aload_n C dX12_runs_127 128 rfl 1 rfl rfl ?_
          refine x_dup C dX12_runs_128 129 rfl rfl ?_
          obtain ⟨v129, hv129, hf⟩ := x_bind hf
          refine x_getI C dX12_runs_129 132 rfl hv129 cl11 rfl w1466 ?_
          refine x_iconst C dX12_runs_132 133 rfl 1 (by decide) ?_
          refine x_iadd C dX12_runs_133 134 rfl ?_
          obtain ⟨σ134, hσ134, hf⟩ := x_bind hf
          refine x_putX C dX12_runs_134 137 rfl hσ134 cl11 rfl w1466 rfl rfl rfl ?_
          refine x_aload_n C dX12_runs_137 138 rfl 1 rfl rfl ?_
          obtain ⟨v138, hv138, hf⟩ := x_bind hf
          refine x_getR C dX12_runs_138 141 rfl hv138 cl11 rfl w1463 ?_
          refine x_aload_n C dX12_runs_141 142 rfl 1 rfl rfl ?_
          obtain ⟨v142, hv142, hf⟩ := x_bind hf
          refine x_getI C dX12_runs_142 145 rfl hv142 cl11 rfl w1466 ?_
          refine x_aload_n C dX12_runs_145 146 rfl 1 rfl rfl ?_
          obtain ⟨v146, hv146, hf⟩ := x_bind hf
          refine x_getL C dX12_runs_146 149 rfl hv146 cl11 rfl w1461 ?_
          obtain ⟨σ149, hσ149, hf⟩ := x_bind hf
          refine x_lastore C dX12_runs_149 150 rfl hσ149 ?_
          refine x_goto C dX12_runs_150 17 (by decide) ?_
          refine x_lv [1, 2] (lv' := [(0, .ref (x0)), (3, .int (x3))]) rfl ?_
          exact hK _ (Option.some.inj hf).symm
        · have hf := (if_pos hc).symm.trans hf
          refine x_aload_n C dX12_runs_79 80 rfl 1 rfl rfl ?_
          refine x_iconst C dX12_runs_80 81 rfl 2 (by decide) ?_
          obtain ⟨σ81, hσ81, hf⟩ := x_bind hf
          refine x_putX C dX12_runs_81 84 rfl hσ81 cl11 rfl w1467 rfl rfl rfl ?_
          refine x_goto C dX12_runs_84 150 (by decide) ?_
          refine x_goto C dX12_runs_150 17 (by decide) ?_
          refine x_lv [1, 2] (lv' := [(0, .ref (x0)), (3, .int (x3))]) rfl ?_
          exact hK _ (Option.some.inj hf).symm
      · have hf := (if_neg hc).symm.trans hf
        refine x_aload_n C dX12_runs_62 63 rfl 1 rfl rfl ?_
        refine x_iconst C dX12_runs_63 64 rfl 1 (by decide) ?_
        obtain ⟨σ64, hσ64, hf⟩ := x_bind hf
        refine x_putX C dX12_runs_64 67 rfl hσ64 cl11 rfl w1467 rfl rfl rfl ?_
        refine x_goto C dX12_runs_67 150 (by decide) ?_
        refine x_goto C dX12_runs_150 17 (by decide) ?_
        refine x_lv [1, 2] (lv' := [(0, .ref (x0)), (3, .int (x3))]) rfl ?_
        exact hK _ (Option.some.inj hf).symm
    · have hf := (if_neg hc).symm.trans hf
      refine x_aload_n C dX12_runs_45 46 rfl 1 rfl rfl ?_
      refine x_iconst C dX12_runs_46 47 rfl 0 (by decide) ?_
      obtain ⟨σ47, hσ47, hf⟩ := x_bind hf
      refine x_putX C dX12_runs_47 50 rfl hσ47 cl11 rfl w1467 rfl rfl rfl ?_
      refine x_goto C dX12_runs_50 150 (by decide) ?_
      refine x_goto C dX12_runs_150 17 (by decide) ?_
      refine x_lv [1, 2] (lv' := [(0, .ref (x0)), (3, .int (x3))]) rfl ?_
      exact hK _ (Option.some.inj hf).symm
noncomputable def fX12_runs (σ : St) (x0 : Nat) (x1 : Int64) (x3 : Int32) : Option ((Int64 × St)) :=
(wrF σ x0 11 23 (.int (0))).bind fun σ2 =>
(gR σ2 x0 11 20).bind fun v6 =>
(sL σ2 v6 0 x1).bind fun σ11 =>
(wrF σ11 x0 11 24 (.int ((-1)))).bind fun σ14 =>
(iterP (fLX12_runs_17 x0 x3) σ14).bind fun b17 =>
(gR b17 x0 11 20).bind fun v154 =>
(gI b17 x0 11 23).bind fun v158 =>
(aL b17 v154 v158).bind fun v161 =>
some (v161, b17)
set_option maxHeartbeats 4000000 in
set_option maxRecDepth 100000 in
theorem cX12_runsc {l : Launch} {G : xG} {A : Nat → Prop} {σ : St} {x0 : Nat} {x1 : Int64} {x3 : Int32} {c : (Int64 × St)} (hf : fX12_runs σ x0 x1 x3 = some c) : Con l yX12_runs (xws yX12_runs cX12_runs 6 (some .long)) rmX12_runs [.ref (x0), .long (x1), .int (x3)] G A σ (some (.long c.1)) c.2 := by
  refine x_start rfl (Nat.le_of_ble_eq_true rfl) (fun X _ _ _ C hE0 => ?_)
  have hE : ∀ r, c = r → xE1 X (some (.long r.1)) r.2 := fun r e => e ▸ hE0
  show V X (0, 0) σ 0 [(0, .ref (x0)), (1, .long (x1)), (3, .int (x3))] []
  unfold fX12_runs at hf
  refine x_aload_n C dX12_runs_0 1 rfl 0 rfl rfl ?_
  refine x_iconst C dX12_runs_1 2 rfl 0 (by decide) ?_
  obtain ⟨σ2, hσ2, hf⟩ := x_bind hf
  refine x_putX C dX12_runs_2 5 rfl hσ2 cl11 rfl w1466 rfl rfl rfl ?_
  refine x_aload_n C dX12_runs_5 6 rfl 0 rfl rfl ?_
  obtain ⟨v6, hv6, hf⟩ := x_bind hf
  refine x_getR C dX12_runs_6 9 rfl hv6 cl11 rfl w1463 ?_
  refine x_iconst C dX12_runs_9 10 rfl 0 (by decide) ?_
  refine x_lload_n C dX12_runs_10 11 rfl 1 rfl rfl ?_
  obtain ⟨σ11, hσ11, hf⟩ := x_bind hf
  refine x_lastore C dX12_runs_11 12 rfl hσ11 ?_
  refine x_aload_n C dX12_runs_12 13 rfl 0 rfl rfl ?_
  refine x_iconst C dX12_runs_13 14 rfl (-1) (by decide) ?_
  obtain ⟨σ14, hσ14, hf⟩ := x_bind hf
  refine x_putX C dX12_runs_14 17 rfl hσ14 cl11 rfl w1467 rfl rfl rfl ?_
  obtain ⟨b17, hb17, hf⟩ := x_bind hf
  refine x_lv [0, 2] (lv' := [(0, .ref (x0)), (3, .int (x3))]) rfl ?_
  refine lpX12_runs_17 C hb17 (fun s17 e17 => ?_)
  subst e17
  refine x_aload_n C dX12_runs_153 154 rfl 0 rfl rfl ?_
  obtain ⟨v154, hv154, hf⟩ := x_bind hf
  refine x_getR C dX12_runs_154 157 rfl hv154 cl11 rfl w1463 ?_
  refine x_aload_n C dX12_runs_157 158 rfl 0 rfl rfl ?_
  obtain ⟨v158, hv158, hf⟩ := x_bind hf
  refine x_getI C dX12_runs_158 161 rfl hv158 cl11 rfl w1466 ?_
  obtain ⟨v161, hv161, hf⟩ := x_bind hf
  refine x_laload C dX12_runs_161 162 rfl hv161 ?_
  exact x_lret C (hE _ (Option.some.inj hf).symm) dX12_runs_162
