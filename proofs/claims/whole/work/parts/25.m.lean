/-! methods: X12_readsOrder X12_readsRule X12_rounds X12_run X12_said X12_says X12_saysWord X12_say -/
theorem dX12_readsOrder_0 : decode cX12_readsOrder 0 = .ok (.aload_n 0, 1) := by decide +kernel
theorem dX12_readsOrder_1 : decode cX12_readsOrder 1 = .ok (.invokevirtual 229, 3) := by decide +kernel
theorem dX12_readsOrder_4 : decode cX12_readsOrder 4 = .ok (.aload_n 0, 1) := by decide +kernel
theorem dX12_readsOrder_5 : decode cX12_readsOrder 5 = .ok (.getfield 30, 3) := by decide +kernel
theorem dX12_readsOrder_8 : decode cX12_readsOrder 8 = .ok (.iconst 0, 1) := by decide +kernel
theorem dX12_readsOrder_9 : decode cX12_readsOrder 9 = .ok (.laload, 1) := by decide +kernel
theorem dX12_readsOrder_10 : decode cX12_readsOrder 10 = .ok (.l2i, 1) := by decide +kernel
theorem dX12_readsOrder_11 : decode cX12_readsOrder 11 = .ok (.istore_n 1, 1) := by decide +kernel
theorem dX12_readsOrder_12 : decode cX12_readsOrder 12 = .ok (.aload_n 0, 1) := by decide +kernel
theorem dX12_readsOrder_13 : decode cX12_readsOrder 13 = .ok (.iload_n 1, 1) := by decide +kernel
theorem dX12_readsOrder_14 : decode cX12_readsOrder 14 = .ok (.iload_n 1, 1) := by decide +kernel
theorem dX12_readsOrder_15 : decode cX12_readsOrder 15 = .ok (.invokevirtual 240, 3) := by decide +kernel
theorem dX12_readsOrder_18 : decode cX12_readsOrder 18 = .ok (.lstore_n 2, 1) := by decide +kernel
theorem dX12_readsOrder_19 : decode cX12_readsOrder 19 = .ok (.iconst 0, 1) := by decide +kernel
theorem dX12_readsOrder_20 : decode cX12_readsOrder 20 = .ok (.istore 4, 2) := by decide +kernel
theorem dX12_readsOrder_22 : decode cX12_readsOrder 22 = .ok (.iconst 0, 1) := by decide +kernel
theorem dX12_readsOrder_23 : decode cX12_readsOrder 23 = .ok (.istore 5, 2) := by decide +kernel
theorem dX12_readsOrder_25 : decode cX12_readsOrder 25 = .ok (.iload 5, 2) := by decide +kernel
theorem dX12_readsOrder_27 : decode cX12_readsOrder 27 = .ok (.iload_n 1, 1) := by decide +kernel
theorem dX12_readsOrder_28 : decode cX12_readsOrder 28 = .ok (.if_icmp .ge 29, 3) := by decide +kernel
theorem dX12_readsOrder_31 : decode cX12_readsOrder 31 = .ok (.aload_n 0, 1) := by decide +kernel
theorem dX12_readsOrder_32 : decode cX12_readsOrder 32 = .ok (.invokevirtual 212, 3) := by decide +kernel
theorem dX12_readsOrder_35 : decode cX12_readsOrder 35 = .ok (.ifCond .eq 22, 3) := by decide +kernel
theorem dX12_readsOrder_38 : decode cX12_readsOrder 38 = .ok (.iload 4, 2) := by decide +kernel
theorem dX12_readsOrder_40 : decode cX12_readsOrder 40 = .ok (.iconst 1, 1) := by decide +kernel
theorem dX12_readsOrder_41 : decode cX12_readsOrder 41 = .ok (.lload_n 2, 1) := by decide +kernel
theorem dX12_readsOrder_42 : decode cX12_readsOrder 42 = .ok (.iload 5, 2) := by decide +kernel
theorem dX12_readsOrder_44 : decode cX12_readsOrder 44 = .ok (.invokestatic 160, 3) := by decide +kernel
theorem dX12_readsOrder_47 : decode cX12_readsOrder 47 = .ok (.ishl, 1) := by decide +kernel
theorem dX12_readsOrder_48 : decode cX12_readsOrder 48 = .ok (.ior, 1) := by decide +kernel
theorem dX12_readsOrder_49 : decode cX12_readsOrder 49 = .ok (.istore 4, 2) := by decide +kernel
theorem dX12_readsOrder_51 : decode cX12_readsOrder 51 = .ok (.iinc 5 1, 3) := by decide +kernel
theorem dX12_readsOrder_54 : decode cX12_readsOrder 54 = .ok (.goto (-29), 3) := by decide +kernel
theorem dX12_readsOrder_57 : decode cX12_readsOrder 57 = .ok (.aload_n 0, 1) := by decide +kernel
theorem dX12_readsOrder_58 : decode cX12_readsOrder 58 = .ok (.invokevirtual 212, 3) := by decide +kernel
theorem dX12_readsOrder_61 : decode cX12_readsOrder 61 = .ok (.ifCond .eq 26, 3) := by decide +kernel
theorem dX12_readsOrder_64 : decode cX12_readsOrder 64 = .ok (.aload_n 0, 1) := by decide +kernel
theorem dX12_readsOrder_65 : decode cX12_readsOrder 65 = .ok (.iload 4, 2) := by decide +kernel
theorem dX12_readsOrder_67 : decode cX12_readsOrder 67 = .ok (.iconst 1, 1) := by decide +kernel
theorem dX12_readsOrder_68 : decode cX12_readsOrder 68 = .ok (.iload_n 1, 1) := by decide +kernel
theorem dX12_readsOrder_69 : decode cX12_readsOrder 69 = .ok (.ishl, 1) := by decide +kernel
theorem dX12_readsOrder_70 : decode cX12_readsOrder 70 = .ok (.iconst 1, 1) := by decide +kernel
theorem dX12_readsOrder_71 : decode cX12_readsOrder 71 = .ok (.isub, 1) := by decide +kernel
theorem dX12_readsOrder_72 : decode cX12_readsOrder 72 = .ok (.if_icmp .ne 7, 3) := by decide +kernel
theorem dX12_readsOrder_75 : decode cX12_readsOrder 75 = .ok (.iconst 1, 1) := by decide +kernel
theorem dX12_readsOrder_76 : decode cX12_readsOrder 76 = .ok (.goto 4, 3) := by decide +kernel
theorem dX12_readsOrder_79 : decode cX12_readsOrder 79 = .ok (.iconst 0, 1) := by decide +kernel
theorem dX12_readsOrder_80 : decode cX12_readsOrder 80 = .ok (.iconst 2, 1) := by decide +kernel
theorem dX12_readsOrder_81 : decode cX12_readsOrder 81 = .ok (.invokevirtual 225, 3) := by decide +kernel
theorem dX12_readsOrder_84 : decode cX12_readsOrder 84 = .ok (.ifCond .ne 4, 3) := by decide +kernel
theorem dX12_readsOrder_87 : decode cX12_readsOrder 87 = .ok (.return_, 1) := by decide +kernel
theorem dX12_readsOrder_88 : decode cX12_readsOrder 88 = .ok (.iconst 0, 1) := by decide +kernel
theorem dX12_readsOrder_89 : decode cX12_readsOrder 89 = .ok (.istore 5, 2) := by decide +kernel
theorem dX12_readsOrder_91 : decode cX12_readsOrder 91 = .ok (.iload 5, 2) := by decide +kernel
theorem dX12_readsOrder_93 : decode cX12_readsOrder 93 = .ok (.iload_n 1, 1) := by decide +kernel
theorem dX12_readsOrder_94 : decode cX12_readsOrder 94 = .ok (.if_icmp .ge 26, 3) := by decide +kernel
theorem dX12_readsOrder_97 : decode cX12_readsOrder 97 = .ok (.aload_n 0, 1) := by decide +kernel
theorem dX12_readsOrder_98 : decode cX12_readsOrder 98 = .ok (.getfield 30, 3) := by decide +kernel
theorem dX12_readsOrder_101 : decode cX12_readsOrder 101 = .ok (.bipush 7, 2) := by decide +kernel
theorem dX12_readsOrder_103 : decode cX12_readsOrder 103 = .ok (.iload 5, 2) := by decide +kernel
theorem dX12_readsOrder_105 : decode cX12_readsOrder 105 = .ok (.iadd, 1) := by decide +kernel
theorem dX12_readsOrder_106 : decode cX12_readsOrder 106 = .ok (.lload_n 2, 1) := by decide +kernel
theorem dX12_readsOrder_107 : decode cX12_readsOrder 107 = .ok (.iload 5, 2) := by decide +kernel
theorem dX12_readsOrder_109 : decode cX12_readsOrder 109 = .ok (.invokestatic 160, 3) := by decide +kernel
theorem dX12_readsOrder_112 : decode cX12_readsOrder 112 = .ok (.i2l, 1) := by decide +kernel
theorem dX12_readsOrder_113 : decode cX12_readsOrder 113 = .ok (.lastore, 1) := by decide +kernel
theorem dX12_readsOrder_114 : decode cX12_readsOrder 114 = .ok (.iinc 5 1, 3) := by decide +kernel
theorem dX12_readsOrder_117 : decode cX12_readsOrder 117 = .ok (.goto (-26), 3) := by decide +kernel
theorem dX12_readsOrder_120 : decode cX12_readsOrder 120 = .ok (.aload_n 0, 1) := by decide +kernel
theorem dX12_readsOrder_121 : decode cX12_readsOrder 121 = .ok (.invokevirtual 229, 3) := by decide +kernel
theorem dX12_readsOrder_124 : decode cX12_readsOrder 124 = .ok (.return_, 1) := by decide +kernel
abbrev rmX12_readsOrder : Room := { frames := 3, cells := 0, slots := 0, locals := 81 }
noncomputable def fLX12_readsOrder_25 (σ : St) (x0 : Nat) (x1 : Int32) (x2 : Int64) (a : Int32 × Int32) : Option ((Int32 × Int32) ⊕ (Int32)) :=
if x1 ≤ a.2 then
(some (Sum.inr a.1))
else
((isO σ x0 11).bind fun _ =>
(fX12_fine σ x0).bind fun w32 =>
if w32 = 0 then
(some (Sum.inr a.1))
else
((fX12_letterAt x2 a.2).bind fun w44 =>
xlet (a.1 ||| (1 <<< (w44 &&& 31))) fun v49 =>
xlet (a.2 + 1) fun v51 =>
some (Sum.inl (v49, v51))))
set_option maxHeartbeats 4000000 in
set_option maxRecDepth 100000 in
theorem lpX12_readsOrder_25 {X : xX} {σ : St} {x0 : Nat} {x1 : Int32} {x2 : Int64}  {a0 : Int32 × Int32} {b : Int32} (C : Ok X cX12_readsOrder 6 RX12 rmX12_readsOrder none) (hb : iterP (fLX12_readsOrder_25 σ x0 x1 x2) a0 = some b) (hy0 : ∀ s, b = s → V X (0, 0) σ 57 [(0, .ref (x0)), (1, .int (x1)), (2, .long (x2)), (4, .int (s))] []) : V X (0, 0) σ 25 [(0, .ref (x0)), (1, .int (x1)), (2, .long (x2)), (4, .int (a0.1)), (5, .int (a0.2))] [] := by
  obtain ⟨n, hn⟩ := iterP_some hb
  refine x_loop (P := fun a => V X (0, 0) σ 25 [(0, .ref (x0)), (1, .int (x1)), (2, .long (x2)), (4, .int (a.1)), (5, .int (a.2))] []) ?_ n a0 hn
  intro a c hf hK hxx
  have hx0 : ∀ s, c = Sum.inr s → V X (0, 0) σ 57 [(0, .ref (x0)), (1, .int (x1)), (2, .long (x2)), (4, .int (s))] [] := fun s e => hy0 s (hxx _ e).symm
  unfold fLX12_readsOrder_25 at hf
  refine x_iload C dX12_readsOrder_25 27 rfl 4 rfl ?_
  refine x_iload_n C dX12_readsOrder_27 28 rfl 1 rfl rfl ?_
  refine x_icmp_ge C dX12_readsOrder_28 57 (by decide) 31 rfl (fun hc => ?_) (fun hc => ?_)
  · have hf := (if_pos hc).symm.trans hf
    refine x_lv [0, 1, 2, 3] (lv' := [(0, .ref (x0)), (1, .int (x1)), (2, .long (x2)), (4, .int (a.1))]) rfl ?_
    exact hx0 _ (Option.some.inj hf).symm
  · have hf := (if_neg hc).symm.trans hf
    refine x_aload_n C dX12_readsOrder_31 32 rfl 0 rfl rfl ?_
    obtain ⟨o32, ho32, hf⟩ := x_bind hf
    obtain ⟨w32, hw32, hf⟩ := x_bind hf
    refine x_callVi C dX12_readsOrder_32 35 rfl ho32 cl11.1 rfl (cX12_finec hw32) kX12_fine kvX12_fine w1683 ⟨rfl, rfl⟩ ⟨Nat.le_of_ble_eq_true rfl, Nat.le_of_ble_eq_true rfl⟩ ⟨Nat.zero_le _, Nat.zero_le _⟩ rfl rfl (Nat.le_of_ble_eq_true rfl) ?_
    refine x_if_eq C dX12_readsOrder_35 57 (by decide) 38 rfl (fun hc => ?_) (fun hc => ?_)
    · have hf := (if_pos hc).symm.trans hf
      refine x_lv [0, 1, 2, 3] (lv' := [(0, .ref (x0)), (1, .int (x1)), (2, .long (x2)), (4, .int (a.1))]) rfl ?_
      exact hx0 _ (Option.some.inj hf).symm
    · have hf := (if_neg hc).symm.trans hf
      refine x_iload C dX12_readsOrder_38 40 rfl 3 rfl ?_
      refine x_iconst C dX12_readsOrder_40 41 rfl 1 (by decide) ?_
      refine x_lload_n C dX12_readsOrder_41 42 rfl 2 rfl rfl ?_
      refine x_iload C dX12_readsOrder_42 44 rfl 4 rfl ?_
      obtain ⟨w44, hw44, hf⟩ := x_bind hf
      refine x_callSi C dX12_readsOrder_44 47 rfl (cX12_letterAtc hw44) kX12_letterAt ksX12_letterAt w1722 ⟨rfl, rfl⟩ ⟨Nat.le_of_ble_eq_true rfl, Nat.le_of_ble_eq_true rfl⟩ ⟨Nat.zero_le _, Nat.zero_le _⟩ rfl rfl (Nat.le_of_ble_eq_true rfl) ?_
      refine x_ishl C dX12_readsOrder_47 48 rfl ?_
      refine x_ior C dX12_readsOrder_48 49 rfl ?_
      obtain ⟨v49, ev49, hf⟩ := xlet_some hf
      refine x_topi ev49 ?_
      refine x_istore C dX12_readsOrder_49 51 rfl rfl [(4, .int (v49)), (0, .ref (x0)), (1, .int (x1)), (2, .long (x2)), (5, .int (a.2))] rfl ?_
      obtain ⟨v51, ev51, hf⟩ := xlet_some hf
      refine x_iinc C dX12_readsOrder_51 54 rfl 4 rfl v51 ev51 rfl [(5, .int (v51)), (4, .int (v49)), (0, .ref (x0)), (1, .int (x1)), (2, .long (x2))] rfl ?_
      refine x_goto C dX12_readsOrder_54 25 (by decide) ?_
      refine x_lv [2, 3, 4, 1, 0] (lv' := [(0, .ref (x0)), (1, .int (x1)), (2, .long (x2)), (4, .int (v49)), (5, .int (v51))]) rfl ?_
      exact hK _ (Option.some.inj hf).symm
noncomputable def fLX12_readsOrder_91 (x0 : Nat) (x1 : Int32) (x2 : Int64) (a : Int32 × St) : Option ((Int32 × St) ⊕ (St)) :=
if x1 ≤ a.1 then
(some (Sum.inr a.2))
else
((gR a.2 x0 11 15).bind fun v98 =>
(fX12_letterAt x2 a.1).bind fun w109 =>
(sL a.2 v98 (7 + a.1) w109.toInt64).bind fun σ113 =>
xlet (a.1 + 1) fun v114 =>
some (Sum.inl (v114, σ113)))
set_option maxHeartbeats 4000000 in
set_option maxRecDepth 100000 in
theorem lpX12_readsOrder_91 {X : xX} {x0 : Nat} {x1 : Int32} {x2 : Int64}  {a0 : Int32 × St} {b : St} (C : Ok X cX12_readsOrder 6 RX12 rmX12_readsOrder none) (hb : iterP (fLX12_readsOrder_91 x0 x1 x2) a0 = some b) (hy0 : ∀ s, b = s → V X (0, 0) s 120 [(0, .ref (x0))] []) : V X (0, 0) a0.2 91 [(0, .ref (x0)), (1, .int (x1)), (2, .long (x2)), (5, .int (a0.1))] [] := by
  obtain ⟨n, hn⟩ := iterP_some hb
  refine x_loop (P := fun a => V X (0, 0) a.2 91 [(0, .ref (x0)), (1, .int (x1)), (2, .long (x2)), (5, .int (a.1))] []) ?_ n a0 hn
  intro a c hf hK hxx
  have hx0 : ∀ s, c = Sum.inr s → V X (0, 0) s 120 [(0, .ref (x0))] [] := fun s e => hy0 s (hxx _ e).symm
  unfold fLX12_readsOrder_91 at hf
  refine x_iload C dX12_readsOrder_91 93 rfl 3 rfl ?_
  refine x_iload_n C dX12_readsOrder_93 94 rfl 1 rfl rfl ?_
  refine x_icmp_ge C dX12_readsOrder_94 120 (by decide) 97 rfl (fun hc => ?_) (fun hc => ?_)
  · have hf := (if_pos hc).symm.trans hf
    refine x_lv [0] (lv' := [(0, .ref (x0))]) rfl ?_
    exact hx0 _ (Option.some.inj hf).symm
  · have hf := (if_neg hc).symm.trans hf
    refine x_aload_n C dX12_readsOrder_97 98 rfl 0 rfl rfl ?_
    obtain ⟨v98, hv98, hf⟩ := x_bind hf
    refine x_getR C dX12_readsOrder_98 101 rfl hv98 cl11 rfl w1458 ?_
    refine x_bipush C dX12_readsOrder_101 103 rfl 7 (by decide) ?_
    refine x_iload C dX12_readsOrder_103 105 rfl 3 rfl ?_
    refine x_iadd C dX12_readsOrder_105 106 rfl ?_
    refine x_lload_n C dX12_readsOrder_106 107 rfl 2 rfl rfl ?_
    refine x_iload C dX12_readsOrder_107 109 rfl 3 rfl ?_
    obtain ⟨w109, hw109, hf⟩ := x_bind hf
    refine x_callSi C dX12_readsOrder_109 112 rfl (cX12_letterAtc hw109) kX12_letterAt ksX12_letterAt w1722 ⟨rfl, rfl⟩ ⟨Nat.le_of_ble_eq_true rfl, Nat.le_of_ble_eq_true rfl⟩ ⟨Nat.zero_le _, Nat.zero_le _⟩ rfl rfl (Nat.le_of_ble_eq_true rfl) ?_
    refine x_i2l C dX12_readsOrder_112 113 rfl ?_
    obtain ⟨σ113, hσ113, hf⟩ := x_bind hf
    refine x_lastore C dX12_readsOrder_113 114 rfl hσ113 ?_
    obtain ⟨v114, ev114, hf⟩ := xlet_some hf
    refine x_iinc C dX12_readsOrder_114 117 rfl 3 rfl v114 ev114 rfl [(5, .int (v114)), (0, .ref (x0)), (1, .int (x1)), (2, .long (x2))] rfl ?_
    refine x_goto C dX12_readsOrder_117 91 (by decide) ?_
    refine x_lv [1, 2, 3, 0] (lv' := [(0, .ref (x0)), (1, .int (x1)), (2, .long (x2)), (5, .int (v114))]) rfl ?_
    exact hK _ (Option.some.inj hf).symm
noncomputable def fJX12_readsOrder_m_80 (σ : St) (x0 : Nat) (x1 : Int32) (x2 : Int64) (t0 : Int32) (t1 : Nat) : Option (St) :=
(isO σ t1 11).bind fun _ =>
(fX12_check σ t1 t0 2).bind fun w81 =>
if w81.1 = 0 then
(some w81.2)
else
((iterP (fLX12_readsOrder_91 x0 x1 x2) (0, w81.2)).bind fun b91 =>
(isO b91 x0 11).bind fun _ =>
(fX12_goes b91 x0).bind fun w121 =>
some w121)
set_option maxHeartbeats 4000000 in
set_option maxRecDepth 100000 in
theorem jnX12_readsOrder_m_80 {X : xX} {σ : St} {x0 : Nat} {x1 : Int32} {x2 : Int64} {t0 : Int32} {t1 : Nat}  {c : St} (C : Ok X cX12_readsOrder 6 RX12 rmX12_readsOrder none) (hf : fJX12_readsOrder_m_80 σ x0 x1 x2 t0 t1 = some c) (hE : ∀ r, c = r → xE1 X none r) : V X (0, 0) σ 80 [(0, .ref (x0)), (1, .int (x1)), (2, .long (x2))] [.int (t0), .ref (t1)] := by
  unfold fJX12_readsOrder_m_80 at hf
  refine x_iconst C dX12_readsOrder_80 81 rfl 2 (by decide) ?_
  obtain ⟨o81, ho81, hf⟩ := x_bind hf
  obtain ⟨w81, hw81, hf⟩ := x_bind hf
  refine x_callVi C dX12_readsOrder_81 84 rfl ho81 cl11.1 rfl (cX12_checkc hw81) kX12_check kvX12_check w1679 ⟨rfl, rfl⟩ ⟨Nat.le_of_ble_eq_true rfl, Nat.le_of_ble_eq_true rfl⟩ ⟨Nat.zero_le _, Nat.zero_le _⟩ rfl rfl (Nat.le_of_ble_eq_true rfl) ?_
  refine x_if_ne C dX12_readsOrder_84 88 (by decide) 87 rfl (fun hc => ?_) (fun hc => ?_)
  · have hf := (if_neg hc).symm.trans hf
    refine x_iconst C dX12_readsOrder_88 89 rfl 0 (by decide) ?_
    refine x_istore C dX12_readsOrder_89 91 rfl rfl [(5, .int (0)), (0, .ref (x0)), (1, .int (x1)), (2, .long (x2))] rfl ?_
    obtain ⟨b91, hb91, hf⟩ := x_bind hf
    refine x_lv [1, 2, 3, 0] (lv' := [(0, .ref (x0)), (1, .int (x1)), (2, .long (x2)), (5, .int (0))]) rfl ?_
    refine lpX12_readsOrder_91 C hb91 (fun s91 e91 => ?_)
    subst e91
    refine x_aload_n C dX12_readsOrder_120 121 rfl 0 rfl rfl ?_
    obtain ⟨o121, ho121, hf⟩ := x_bind hf
    obtain ⟨w121, hw121, hf⟩ := x_bind hf
    refine x_callVv C dX12_readsOrder_121 124 rfl ho121 cl11.1 rfl (cX12_goesc hw121) kX12_goes kvX12_goes w1652 ⟨rfl, rfl⟩ ⟨Nat.le_of_ble_eq_true rfl, Nat.le_of_ble_eq_true rfl⟩ ⟨Nat.zero_le _, Nat.zero_le _⟩ rfl rfl (Nat.le_of_ble_eq_true rfl) ?_
    exact x_vret C (hE _ (Option.some.inj hf).symm) dX12_readsOrder_124
  · have hf := (if_pos hc).symm.trans hf
    exact x_vret C (hE _ (Option.some.inj hf).symm) dX12_readsOrder_87
noncomputable def fJX12_readsOrder_m_57 (σ : St) (x0 : Nat) (x1 : Int32) (x2 : Int64) (x4 : Int32)  : Option (St) :=
(isO σ x0 11).bind fun _ =>
(fX12_fine σ x0).bind fun w58 =>
if w58 = 0 then
(some σ)
else
(if x4 = ((1 <<< (x1 &&& 31)) - 1) then
(fJX12_readsOrder_m_80 σ x0 x1 x2 1 x0)
else
(fJX12_readsOrder_m_80 σ x0 x1 x2 0 x0))
set_option maxHeartbeats 4000000 in
set_option maxRecDepth 100000 in
theorem jnX12_readsOrder_m_57 {X : xX} {σ : St} {x0 : Nat} {x1 : Int32} {x2 : Int64} {x4 : Int32}   {c : St} (C : Ok X cX12_readsOrder 6 RX12 rmX12_readsOrder none) (hf : fJX12_readsOrder_m_57 σ x0 x1 x2 x4  = some c) (hE : ∀ r, c = r → xE1 X none r) : V X (0, 0) σ 57 [(0, .ref (x0)), (1, .int (x1)), (2, .long (x2)), (4, .int (x4))] [] := by
  unfold fJX12_readsOrder_m_57 at hf
  refine x_aload_n C dX12_readsOrder_57 58 rfl 0 rfl rfl ?_
  obtain ⟨o58, ho58, hf⟩ := x_bind hf
  obtain ⟨w58, hw58, hf⟩ := x_bind hf
  refine x_callVi C dX12_readsOrder_58 61 rfl ho58 cl11.1 rfl (cX12_finec hw58) kX12_fine kvX12_fine w1683 ⟨rfl, rfl⟩ ⟨Nat.le_of_ble_eq_true rfl, Nat.le_of_ble_eq_true rfl⟩ ⟨Nat.zero_le _, Nat.zero_le _⟩ rfl rfl (Nat.le_of_ble_eq_true rfl) ?_
  refine x_if_eq C dX12_readsOrder_61 87 (by decide) 64 rfl (fun hc => ?_) (fun hc => ?_)
  · have hf := (if_pos hc).symm.trans hf
    exact x_vret C (hE _ (Option.some.inj hf).symm) dX12_readsOrder_87
  · have hf := (if_neg hc).symm.trans hf
    refine x_aload_n C dX12_readsOrder_64 65 rfl 0 rfl rfl ?_
    refine x_iload C dX12_readsOrder_65 67 rfl 3 rfl ?_
    refine x_iconst C dX12_readsOrder_67 68 rfl 1 (by decide) ?_
    refine x_iload_n C dX12_readsOrder_68 69 rfl 1 rfl rfl ?_
    refine x_ishl C dX12_readsOrder_69 70 rfl ?_
    refine x_iconst C dX12_readsOrder_70 71 rfl 1 (by decide) ?_
    refine x_isub C dX12_readsOrder_71 72 rfl ?_
    refine x_icmp_ne C dX12_readsOrder_72 79 (by decide) 75 rfl (fun hc => ?_) (fun hc => ?_)
    · have hf := (if_neg hc).symm.trans hf
      refine x_iconst C dX12_readsOrder_79 80 rfl 0 (by decide) ?_
      refine x_lv [0, 1, 2] (lv' := [(0, .ref (x0)), (1, .int (x1)), (2, .long (x2))]) rfl ?_
      exact jnX12_readsOrder_m_80 C hf hE
    · have hf := (if_pos hc).symm.trans hf
      refine x_iconst C dX12_readsOrder_75 76 rfl 1 (by decide) ?_
      refine x_goto C dX12_readsOrder_76 80 (by decide) ?_
      refine x_lv [0, 1, 2] (lv' := [(0, .ref (x0)), (1, .int (x1)), (2, .long (x2))]) rfl ?_
      exact jnX12_readsOrder_m_80 C hf hE
noncomputable def fX12_readsOrder (σ : St) (x0 : Nat) : Option (St) :=
(isO σ x0 11).bind fun _ =>
(fX12_goes σ x0).bind fun w1 =>
(gR w1 x0 11 15).bind fun v5 =>
(aL w1 v5 0).bind fun v9 =>
(isO w1 x0 11).bind fun _ =>
(fX12_side w1 x0 v9.toInt32 v9.toInt32).bind fun w15 =>
(iterP (fLX12_readsOrder_25 w15.2 x0 v9.toInt32 w15.1) (0, 0)).bind fun b25 =>
fJX12_readsOrder_m_57 w15.2 x0 v9.toInt32 w15.1 b25
set_option maxHeartbeats 4000000 in
set_option maxRecDepth 100000 in
theorem cX12_readsOrderc {l : Launch} {G : xG} {A : Nat → Prop} {σ : St} {x0 : Nat} {c : St} (hf : fX12_readsOrder σ x0 = some c) : Con l yX12_readsOrder (xws yX12_readsOrder cX12_readsOrder 6 none) rmX12_readsOrder [.ref (x0)] G A σ none c := by
  refine x_start rfl (Nat.le_of_ble_eq_true rfl) (fun X _ _ _ C hE0 => ?_)
  have hE : ∀ r, c = r → xE1 X none r := fun r e => e ▸ hE0
  show V X (0, 0) σ 0 [(0, .ref (x0))] []
  unfold fX12_readsOrder at hf
  refine x_aload_n C dX12_readsOrder_0 1 rfl 0 rfl rfl ?_
  obtain ⟨o1, ho1, hf⟩ := x_bind hf
  obtain ⟨w1, hw1, hf⟩ := x_bind hf
  refine x_callVv C dX12_readsOrder_1 4 rfl ho1 cl11.1 rfl (cX12_goesc hw1) kX12_goes kvX12_goes w1652 ⟨rfl, rfl⟩ ⟨Nat.le_of_ble_eq_true rfl, Nat.le_of_ble_eq_true rfl⟩ ⟨Nat.zero_le _, Nat.zero_le _⟩ rfl rfl (Nat.le_of_ble_eq_true rfl) ?_
  refine x_aload_n C dX12_readsOrder_4 5 rfl 0 rfl rfl ?_
  obtain ⟨v5, hv5, hf⟩ := x_bind hf
  refine x_getR C dX12_readsOrder_5 8 rfl hv5 cl11 rfl w1458 ?_
  refine x_iconst C dX12_readsOrder_8 9 rfl 0 (by decide) ?_
  obtain ⟨v9, hv9, hf⟩ := x_bind hf
  refine x_laload C dX12_readsOrder_9 10 rfl hv9 ?_
  refine x_l2i C dX12_readsOrder_10 11 rfl ?_
  refine x_istore_n C dX12_readsOrder_11 12 rfl rfl rfl [(1, .int (v9.toInt32)), (0, .ref (x0))] rfl ?_
  refine x_aload_n C dX12_readsOrder_12 13 rfl 1 rfl rfl ?_
  refine x_iload_n C dX12_readsOrder_13 14 rfl 0 rfl rfl ?_
  refine x_iload_n C dX12_readsOrder_14 15 rfl 0 rfl rfl ?_
  obtain ⟨o15, ho15, hf⟩ := x_bind hf
  obtain ⟨w15, hw15, hf⟩ := x_bind hf
  refine x_callVl C dX12_readsOrder_15 18 rfl ho15 cl11.1 rfl (cX12_sidec hw15) kX12_side kvX12_side w1705 ⟨rfl, rfl⟩ ⟨Nat.le_of_ble_eq_true rfl, Nat.le_of_ble_eq_true rfl⟩ ⟨Nat.zero_le _, Nat.zero_le _⟩ rfl rfl (Nat.le_of_ble_eq_true rfl) ?_
  refine x_lstore_n C dX12_readsOrder_18 19 rfl rfl rfl [(2, .long (w15.1)), (1, .int (v9.toInt32)), (0, .ref (x0))] rfl ?_
  refine x_iconst C dX12_readsOrder_19 20 rfl 0 (by decide) ?_
  refine x_istore C dX12_readsOrder_20 22 rfl rfl [(4, .int (0)), (2, .long (w15.1)), (1, .int (v9.toInt32)), (0, .ref (x0))] rfl ?_
  refine x_iconst C dX12_readsOrder_22 23 rfl 0 (by decide) ?_
  refine x_istore C dX12_readsOrder_23 25 rfl rfl [(5, .int (0)), (4, .int (0)), (2, .long (w15.1)), (1, .int (v9.toInt32)), (0, .ref (x0))] rfl ?_
  obtain ⟨b25, hb25, hf⟩ := x_bind hf
  refine x_lv [4, 3, 2, 1, 0] (lv' := [(0, .ref (x0)), (1, .int (v9.toInt32)), (2, .long (w15.1)), (4, .int (0)), (5, .int (0))]) rfl ?_
  refine lpX12_readsOrder_25 C hb25 (fun s25 e25 => ?_)
  subst e25
  exact jnX12_readsOrder_m_57 C hf hE
theorem dX12_readsRule_0 : decode cX12_readsRule 0 = .ok (.aload_n 0, 1) := by decide +kernel
theorem dX12_readsRule_1 : decode cX12_readsRule 1 = .ok (.aload_n 0, 1) := by decide +kernel
theorem dX12_readsRule_2 : decode cX12_readsRule 2 = .ok (.getfield 30, 3) := by decide +kernel
theorem dX12_readsRule_5 : decode cX12_readsRule 5 = .ok (.iconst 1, 1) := by decide +kernel
theorem dX12_readsRule_6 : decode cX12_readsRule 6 = .ok (.laload, 1) := by decide +kernel
theorem dX12_readsRule_7 : decode cX12_readsRule 7 = .ok (.ldc2_w 134, 3) := by decide +kernel
theorem dX12_readsRule_10 : decode cX12_readsRule 10 = .ok (.lcmp, 1) := by decide +kernel
theorem dX12_readsRule_11 : decode cX12_readsRule 11 = .ok (.ifCond .ge 7, 3) := by decide +kernel
theorem dX12_readsRule_14 : decode cX12_readsRule 14 = .ok (.iconst 1, 1) := by decide +kernel
theorem dX12_readsRule_15 : decode cX12_readsRule 15 = .ok (.goto 4, 3) := by decide +kernel
theorem dX12_readsRule_18 : decode cX12_readsRule 18 = .ok (.iconst 0, 1) := by decide +kernel
theorem dX12_readsRule_19 : decode cX12_readsRule 19 = .ok (.iconst 3, 1) := by decide +kernel
theorem dX12_readsRule_20 : decode cX12_readsRule 20 = .ok (.invokevirtual 225, 3) := by decide +kernel
theorem dX12_readsRule_23 : decode cX12_readsRule 23 = .ok (.ifCond .ne 4, 3) := by decide +kernel
theorem dX12_readsRule_26 : decode cX12_readsRule 26 = .ok (.return_, 1) := by decide +kernel
theorem dX12_readsRule_27 : decode cX12_readsRule 27 = .ok (.aload_n 0, 1) := by decide +kernel
theorem dX12_readsRule_28 : decode cX12_readsRule 28 = .ok (.invokevirtual 229, 3) := by decide +kernel
theorem dX12_readsRule_31 : decode cX12_readsRule 31 = .ok (.aload_n 0, 1) := by decide +kernel
theorem dX12_readsRule_32 : decode cX12_readsRule 32 = .ok (.iconst 1, 1) := by decide +kernel
theorem dX12_readsRule_33 : decode cX12_readsRule 33 = .ok (.iconst 4, 1) := by decide +kernel
theorem dX12_readsRule_34 : decode cX12_readsRule 34 = .ok (.invokevirtual 240, 3) := by decide +kernel
theorem dX12_readsRule_37 : decode cX12_readsRule 37 = .ok (.lstore_n 1, 1) := by decide +kernel
theorem dX12_readsRule_38 : decode cX12_readsRule 38 = .ok (.aload_n 0, 1) := by decide +kernel
theorem dX12_readsRule_39 : decode cX12_readsRule 39 = .ok (.invokevirtual 212, 3) := by decide +kernel
theorem dX12_readsRule_42 : decode cX12_readsRule 42 = .ok (.ifCond .eq 7, 3) := by decide +kernel
theorem dX12_readsRule_45 : decode cX12_readsRule 45 = .ok (.aload_n 0, 1) := by decide +kernel
theorem dX12_readsRule_46 : decode cX12_readsRule 46 = .ok (.invokevirtual 229, 3) := by decide +kernel
theorem dX12_readsRule_49 : decode cX12_readsRule 49 = .ok (.aload_n 0, 1) := by decide +kernel
theorem dX12_readsRule_50 : decode cX12_readsRule 50 = .ok (.bipush 62, 2) := by decide +kernel
theorem dX12_readsRule_52 : decode cX12_readsRule 52 = .ok (.invokevirtual 243, 3) := by decide +kernel
theorem dX12_readsRule_55 : decode cX12_readsRule 55 = .ok (.lconst 0, 1) := by decide +kernel
theorem dX12_readsRule_56 : decode cX12_readsRule 56 = .ok (.lstore_n 3, 1) := by decide +kernel
theorem dX12_readsRule_57 : decode cX12_readsRule 57 = .ok (.aload_n 0, 1) := by decide +kernel
theorem dX12_readsRule_58 : decode cX12_readsRule 58 = .ok (.invokevirtual 212, 3) := by decide +kernel
theorem dX12_readsRule_61 : decode cX12_readsRule 61 = .ok (.ifCond .eq 42, 3) := by decide +kernel
theorem dX12_readsRule_64 : decode cX12_readsRule 64 = .ok (.aload_n 0, 1) := by decide +kernel
theorem dX12_readsRule_65 : decode cX12_readsRule 65 = .ok (.getfield 195, 3) := by decide +kernel
theorem dX12_readsRule_68 : decode cX12_readsRule 68 = .ok (.bipush 59, 2) := by decide +kernel
theorem dX12_readsRule_70 : decode cX12_readsRule 70 = .ok (.if_icmp .eq 33, 3) := by decide +kernel
theorem dX12_readsRule_73 : decode cX12_readsRule 73 = .ok (.aload_n 0, 1) := by decide +kernel
theorem dX12_readsRule_74 : decode cX12_readsRule 74 = .ok (.iconst 1, 1) := by decide +kernel
theorem dX12_readsRule_75 : decode cX12_readsRule 75 = .ok (.iconst 4, 1) := by decide +kernel
theorem dX12_readsRule_76 : decode cX12_readsRule 76 = .ok (.invokevirtual 240, 3) := by decide +kernel
theorem dX12_readsRule_79 : decode cX12_readsRule 79 = .ok (.lstore_n 3, 1) := by decide +kernel
theorem dX12_readsRule_80 : decode cX12_readsRule 80 = .ok (.aload_n 0, 1) := by decide +kernel
theorem dX12_readsRule_81 : decode cX12_readsRule 81 = .ok (.lload_n 3, 1) := by decide +kernel
theorem dX12_readsRule_82 : decode cX12_readsRule 82 = .ok (.lload_n 1, 1) := by decide +kernel
theorem dX12_readsRule_83 : decode cX12_readsRule 83 = .ok (.lcmp, 1) := by decide +kernel
theorem dX12_readsRule_84 : decode cX12_readsRule 84 = .ok (.ifCond .eq 7, 3) := by decide +kernel
theorem dX12_readsRule_87 : decode cX12_readsRule 87 = .ok (.iconst 1, 1) := by decide +kernel
theorem dX12_readsRule_88 : decode cX12_readsRule 88 = .ok (.goto 4, 3) := by decide +kernel
theorem dX12_readsRule_91 : decode cX12_readsRule 91 = .ok (.iconst 0, 1) := by decide +kernel
theorem dX12_readsRule_92 : decode cX12_readsRule 92 = .ok (.iconst 4, 1) := by decide +kernel
theorem dX12_readsRule_93 : decode cX12_readsRule 93 = .ok (.invokevirtual 225, 3) := by decide +kernel
theorem dX12_readsRule_96 : decode cX12_readsRule 96 = .ok (.ifCond .eq 7, 3) := by decide +kernel
theorem dX12_readsRule_99 : decode cX12_readsRule 99 = .ok (.aload_n 0, 1) := by decide +kernel
theorem dX12_readsRule_100 : decode cX12_readsRule 100 = .ok (.invokevirtual 229, 3) := by decide +kernel
theorem dX12_readsRule_103 : decode cX12_readsRule 103 = .ok (.aload_n 0, 1) := by decide +kernel
theorem dX12_readsRule_104 : decode cX12_readsRule 104 = .ok (.invokevirtual 212, 3) := by decide +kernel
theorem dX12_readsRule_107 : decode cX12_readsRule 107 = .ok (.ifCond .ne 4, 3) := by decide +kernel
theorem dX12_readsRule_110 : decode cX12_readsRule 110 = .ok (.return_, 1) := by decide +kernel
theorem dX12_readsRule_111 : decode cX12_readsRule 111 = .ok (.aload_n 0, 1) := by decide +kernel
theorem dX12_readsRule_112 : decode cX12_readsRule 112 = .ok (.getfield 30, 3) := by decide +kernel
theorem dX12_readsRule_115 : decode cX12_readsRule 115 = .ok (.iconst 1, 1) := by decide +kernel
theorem dX12_readsRule_116 : decode cX12_readsRule 116 = .ok (.laload, 1) := by decide +kernel
theorem dX12_readsRule_117 : decode cX12_readsRule 117 = .ok (.l2i, 1) := by decide +kernel
theorem dX12_readsRule_118 : decode cX12_readsRule 118 = .ok (.istore 5, 2) := by decide +kernel
theorem dX12_readsRule_120 : decode cX12_readsRule 120 = .ok (.aload_n 0, 1) := by decide +kernel
theorem dX12_readsRule_121 : decode cX12_readsRule 121 = .ok (.getfield 30, 3) := by decide +kernel
theorem dX12_readsRule_124 : decode cX12_readsRule 124 = .ok (.bipush 12, 2) := by decide +kernel
theorem dX12_readsRule_126 : decode cX12_readsRule 126 = .ok (.iload 5, 2) := by decide +kernel
theorem dX12_readsRule_128 : decode cX12_readsRule 128 = .ok (.iadd, 1) := by decide +kernel
theorem dX12_readsRule_129 : decode cX12_readsRule 129 = .ok (.lload_n 1, 1) := by decide +kernel
theorem dX12_readsRule_130 : decode cX12_readsRule 130 = .ok (.lastore, 1) := by decide +kernel
theorem dX12_readsRule_131 : decode cX12_readsRule 131 = .ok (.aload_n 0, 1) := by decide +kernel
theorem dX12_readsRule_132 : decode cX12_readsRule 132 = .ok (.getfield 30, 3) := by decide +kernel
theorem dX12_readsRule_135 : decode cX12_readsRule 135 = .ok (.bipush 24, 2) := by decide +kernel
theorem dX12_readsRule_137 : decode cX12_readsRule 137 = .ok (.iload 5, 2) := by decide +kernel
theorem dX12_readsRule_139 : decode cX12_readsRule 139 = .ok (.iadd, 1) := by decide +kernel
theorem dX12_readsRule_140 : decode cX12_readsRule 140 = .ok (.lload_n 3, 1) := by decide +kernel
theorem dX12_readsRule_141 : decode cX12_readsRule 141 = .ok (.lastore, 1) := by decide +kernel
theorem dX12_readsRule_142 : decode cX12_readsRule 142 = .ok (.aload_n 0, 1) := by decide +kernel
theorem dX12_readsRule_143 : decode cX12_readsRule 143 = .ok (.getfield 30, 3) := by decide +kernel
theorem dX12_readsRule_146 : decode cX12_readsRule 146 = .ok (.iconst 1, 1) := by decide +kernel
theorem dX12_readsRule_147 : decode cX12_readsRule 147 = .ok (.dup2, 1) := by decide +kernel
theorem dX12_readsRule_148 : decode cX12_readsRule 148 = .ok (.laload, 1) := by decide +kernel
theorem dX12_readsRule_149 : decode cX12_readsRule 149 = .ok (.lconst 1, 1) := by decide +kernel
theorem dX12_readsRule_150 : decode cX12_readsRule 150 = .ok (.ladd, 1) := by decide +kernel
theorem dX12_readsRule_151 : decode cX12_readsRule 151 = .ok (.lastore, 1) := by decide +kernel
theorem dX12_readsRule_152 : decode cX12_readsRule 152 = .ok (.return_, 1) := by decide +kernel
abbrev rmX12_readsRule : Room := { frames := 4, cells := 0, slots := 0, locals := 102 }
noncomputable def fJX12_readsRule_m_103 (σ : St) (x0 : Nat) (x1 : Int64) (x3 : Int64)  : Option (St) :=
(isO σ x0 11).bind fun _ =>
(fX12_fine σ x0).bind fun w104 =>
if w104 = 0 then
(some σ)
else
((gR σ x0 11 15).bind fun v112 =>
(aL σ v112 1).bind fun v116 =>
(gR σ x0 11 15).bind fun v121 =>
(sL σ v121 (12 + v116.toInt32) x1).bind fun σ130 =>
(gR σ130 x0 11 15).bind fun v132 =>
(sL σ130 v132 (24 + v116.toInt32) x3).bind fun σ141 =>
(gR σ141 x0 11 15).bind fun v143 =>
(aL σ141 v143 1).bind fun v148 =>
(sL σ141 v143 1 (v148 + 1)).bind fun σ151 =>
some σ151)
set_option maxHeartbeats 4000000 in
set_option maxRecDepth 100000 in
theorem jnX12_readsRule_m_103 {X : xX} {σ : St} {x0 : Nat} {x1 : Int64} {x3 : Int64}   {c : St} (C : Ok X cX12_readsRule 6 RX12 rmX12_readsRule none) (hf : fJX12_readsRule_m_103 σ x0 x1 x3  = some c) (hE : ∀ r, c = r → xE1 X none r) : V X (0, 0) σ 103 [(0, .ref (x0)), (1, .long (x1)), (3, .long (x3))] [] := by
  unfold fJX12_readsRule_m_103 at hf
  refine x_aload_n C dX12_readsRule_103 104 rfl 0 rfl rfl ?_
  obtain ⟨o104, ho104, hf⟩ := x_bind hf
  obtain ⟨w104, hw104, hf⟩ := x_bind hf
  refine x_callVi C dX12_readsRule_104 107 rfl ho104 cl11.1 rfl (cX12_finec hw104) kX12_fine kvX12_fine w1683 ⟨rfl, rfl⟩ ⟨Nat.le_of_ble_eq_true rfl, Nat.le_of_ble_eq_true rfl⟩ ⟨Nat.zero_le _, Nat.zero_le _⟩ rfl rfl (Nat.le_of_ble_eq_true rfl) ?_
  refine x_if_ne C dX12_readsRule_107 111 (by decide) 110 rfl (fun hc => ?_) (fun hc => ?_)
  · have hf := (if_neg hc).symm.trans hf
    refine x_aload_n C dX12_readsRule_111 112 rfl 0 rfl rfl ?_
    obtain ⟨v112, hv112, hf⟩ := x_bind hf
    refine x_getR C dX12_readsRule_112 115 rfl hv112 cl11 rfl w1458 ?_
    refine x_iconst C dX12_readsRule_115 116 rfl 1 (by decide) ?_
    obtain ⟨v116, hv116, hf⟩ := x_bind hf
    refine x_laload C dX12_readsRule_116 117 rfl hv116 ?_
    refine x_l2i C dX12_readsRule_117 118 rfl ?_
    refine x_istore C dX12_readsRule_118 120 rfl rfl [(5, .int (v116.toInt32)), (0, .ref (x0)), (1, .long (x1)), (3, .long (x3))] rfl ?_
    refine x_aload_n C dX12_readsRule_120 121 rfl 1 rfl rfl ?_
    obtain ⟨v121, hv121, hf⟩ := x_bind hf
    refine x_getR C dX12_readsRule_121 124 rfl hv121 cl11 rfl w1458 ?_
    refine x_bipush C dX12_readsRule_124 126 rfl 12 (by decide) ?_
    refine x_iload C dX12_readsRule_126 128 rfl 0 rfl ?_
    refine x_iadd C dX12_readsRule_128 129 rfl ?_
    refine x_lload_n C dX12_readsRule_129 130 rfl 2 rfl rfl ?_
    obtain ⟨σ130, hσ130, hf⟩ := x_bind hf
    refine x_lastore C dX12_readsRule_130 131 rfl hσ130 ?_
    refine x_aload_n C dX12_readsRule_131 132 rfl 1 rfl rfl ?_
    obtain ⟨v132, hv132, hf⟩ := x_bind hf
    refine x_getR C dX12_readsRule_132 135 rfl hv132 cl11 rfl w1458 ?_
    refine x_bipush C dX12_readsRule_135 137 rfl 24 (by decide) ?_
    refine x_iload C dX12_readsRule_137 139 rfl 0 rfl ?_
    refine x_iadd C dX12_readsRule_139 140 rfl ?_
    refine x_lload_n C dX12_readsRule_140 141 rfl 3 rfl rfl ?_
    obtain ⟨σ141, hσ141, hf⟩ := x_bind hf
    refine x_lastore C dX12_readsRule_141 142 rfl hσ141 ?_
    refine x_aload_n C dX12_readsRule_142 143 rfl 1 rfl rfl ?_
    obtain ⟨v143, hv143, hf⟩ := x_bind hf
    refine x_getR C dX12_readsRule_143 146 rfl hv143 cl11 rfl w1458 ?_
    refine x_iconst C dX12_readsRule_146 147 rfl 1 (by decide) ?_
    refine x_dup2 C dX12_readsRule_147 148 rfl rfl rfl ?_
    obtain ⟨v148, hv148, hf⟩ := x_bind hf
    refine x_laload C dX12_readsRule_148 149 rfl hv148 ?_
    refine x_lconst C dX12_readsRule_149 150 rfl 1 (by decide) ?_
    refine x_ladd C dX12_readsRule_150 151 rfl ?_
    obtain ⟨σ151, hσ151, hf⟩ := x_bind hf
    refine x_lastore C dX12_readsRule_151 152 rfl hσ151 ?_
    exact x_vret C (hE _ (Option.some.inj hf).symm) dX12_readsRule_152
  · have hf := (if_pos hc).symm.trans hf
    exact x_vret C (hE _ (Option.some.inj hf).symm) dX12_readsRule_110
noncomputable def fJX12_readsRule_m_92 (σ : St) (x0 : Nat) (x1 : Int64) (x3 : Int64) (t0 : Int32) (t1 : Nat) : Option (St) :=
(isO σ t1 11).bind fun _ =>
(fX12_check σ t1 t0 4).bind fun w93 =>
if w93.1 = 0 then
(fJX12_readsRule_m_103 w93.2 x0 x1 x3)
else
((isO w93.2 x0 11).bind fun _ =>
(fX12_goes w93.2 x0).bind fun w100 =>
fJX12_readsRule_m_103 w100 x0 x1 x3)
set_option maxHeartbeats 4000000 in
set_option maxRecDepth 100000 in
theorem jnX12_readsRule_m_92 {X : xX} {σ : St} {x0 : Nat} {x1 : Int64} {x3 : Int64} {t0 : Int32} {t1 : Nat}  {c : St} (C : Ok X cX12_readsRule 6 RX12 rmX12_readsRule none) (hf : fJX12_readsRule_m_92 σ x0 x1 x3 t0 t1 = some c) (hE : ∀ r, c = r → xE1 X none r) : V X (0, 0) σ 92 [(0, .ref (x0)), (1, .long (x1)), (3, .long (x3))] [.int (t0), .ref (t1)] := by
  unfold fJX12_readsRule_m_92 at hf
  refine x_iconst C dX12_readsRule_92 93 rfl 4 (by decide) ?_
  obtain ⟨o93, ho93, hf⟩ := x_bind hf
  obtain ⟨w93, hw93, hf⟩ := x_bind hf
  refine x_callVi C dX12_readsRule_93 96 rfl ho93 cl11.1 rfl (cX12_checkc hw93) kX12_check kvX12_check w1679 ⟨rfl, rfl⟩ ⟨Nat.le_of_ble_eq_true rfl, Nat.le_of_ble_eq_true rfl⟩ ⟨Nat.zero_le _, Nat.zero_le _⟩ rfl rfl (Nat.le_of_ble_eq_true rfl) ?_
  refine x_if_eq C dX12_readsRule_96 103 (by decide) 99 rfl (fun hc => ?_) (fun hc => ?_)
  · have hf := (if_pos hc).symm.trans hf
    exact jnX12_readsRule_m_103 C hf hE
  · have hf := (if_neg hc).symm.trans hf
    refine x_aload_n C dX12_readsRule_99 100 rfl 0 rfl rfl ?_
    obtain ⟨o100, ho100, hf⟩ := x_bind hf
    obtain ⟨w100, hw100, hf⟩ := x_bind hf
    refine x_callVv C dX12_readsRule_100 103 rfl ho100 cl11.1 rfl (cX12_goesc hw100) kX12_goes kvX12_goes w1652 ⟨rfl, rfl⟩ ⟨Nat.le_of_ble_eq_true rfl, Nat.le_of_ble_eq_true rfl⟩ ⟨Nat.zero_le _, Nat.zero_le _⟩ rfl rfl (Nat.le_of_ble_eq_true rfl) ?_
    exact jnX12_readsRule_m_103 C hf hE
noncomputable def fJX12_readsRule_m_49 (σ : St) (x0 : Nat) (x1 : Int64)  : Option (St) :=
(isO σ x0 11).bind fun _ =>
(fX12_must σ x0 62).bind fun w52 =>
(isO w52 x0 11).bind fun _ =>
(fX12_fine w52 x0).bind fun w58 =>
if w58 = 0 then
(fJX12_readsRule_m_103 w52 x0 x1 0)
else
((gI w52 x0 11 11).bind fun v65 =>
if v65 = ((59 : Int32)) then
(fJX12_readsRule_m_103 w52 x0 x1 0)
else
((isO w52 x0 11).bind fun _ =>
(fX12_side w52 x0 1 4).bind fun w76 =>
if (lg_cmp w76.1 x1) = 0 then
(fJX12_readsRule_m_92 w76.2 x0 x1 w76.1 0 x0)
else
(fJX12_readsRule_m_92 w76.2 x0 x1 w76.1 1 x0)))
set_option maxHeartbeats 4000000 in
set_option maxRecDepth 100000 in
theorem jnX12_readsRule_m_49 {X : xX} {σ : St} {x0 : Nat} {x1 : Int64}   {c : St} (C : Ok X cX12_readsRule 6 RX12 rmX12_readsRule none) (hf : fJX12_readsRule_m_49 σ x0 x1  = some c) (hE : ∀ r, c = r → xE1 X none r) : V X (0, 0) σ 49 [(0, .ref (x0)), (1, .long (x1))] [] := by
  unfold fJX12_readsRule_m_49 at hf
  refine x_aload_n C dX12_readsRule_49 50 rfl 0 rfl rfl ?_
  refine x_bipush C dX12_readsRule_50 52 rfl 62 (by decide) ?_
  obtain ⟨o52, ho52, hf⟩ := x_bind hf
  obtain ⟨w52, hw52, hf⟩ := x_bind hf
  refine x_callVv C dX12_readsRule_52 55 rfl ho52 cl11.1 rfl (cX12_mustc hw52) kX12_must kvX12_must w1691 ⟨rfl, rfl⟩ ⟨Nat.le_of_ble_eq_true rfl, Nat.le_of_ble_eq_true rfl⟩ ⟨Nat.zero_le _, Nat.zero_le _⟩ rfl rfl (Nat.le_of_ble_eq_true rfl) ?_
  refine x_lconst C dX12_readsRule_55 56 rfl 0 (by decide) ?_
  refine x_lstore_n C dX12_readsRule_56 57 rfl rfl rfl [(3, .long (0)), (0, .ref (x0)), (1, .long (x1))] rfl ?_
  refine x_aload_n C dX12_readsRule_57 58 rfl 1 rfl rfl ?_
  obtain ⟨o58, ho58, hf⟩ := x_bind hf
  obtain ⟨w58, hw58, hf⟩ := x_bind hf
  refine x_callVi C dX12_readsRule_58 61 rfl ho58 cl11.1 rfl (cX12_finec hw58) kX12_fine kvX12_fine w1683 ⟨rfl, rfl⟩ ⟨Nat.le_of_ble_eq_true rfl, Nat.le_of_ble_eq_true rfl⟩ ⟨Nat.zero_le _, Nat.zero_le _⟩ rfl rfl (Nat.le_of_ble_eq_true rfl) ?_
  refine x_if_eq C dX12_readsRule_61 103 (by decide) 64 rfl (fun hc => ?_) (fun hc => ?_)
  · have hf := (if_pos hc).symm.trans hf
    refine x_lv [1, 2, 0] (lv' := [(0, .ref (x0)), (1, .long (x1)), (3, .long (0))]) rfl ?_
    exact jnX12_readsRule_m_103 C hf hE
  · have hf := (if_neg hc).symm.trans hf
    refine x_aload_n C dX12_readsRule_64 65 rfl 1 rfl rfl ?_
    obtain ⟨v65, hv65, hf⟩ := x_bind hf
    refine x_getI C dX12_readsRule_65 68 rfl hv65 cl11 rfl w1454 ?_
    refine x_bipush C dX12_readsRule_68 70 rfl 59 (by decide) ?_
    refine x_icmp_eq C dX12_readsRule_70 103 (by decide) 73 rfl (fun hc => ?_) (fun hc => ?_)
    · have hf := (if_pos hc).symm.trans hf
      refine x_lv [1, 2, 0] (lv' := [(0, .ref (x0)), (1, .long (x1)), (3, .long (0))]) rfl ?_
      exact jnX12_readsRule_m_103 C hf hE
    · have hf := (if_neg hc).symm.trans hf
      refine x_aload_n C dX12_readsRule_73 74 rfl 1 rfl rfl ?_
      refine x_iconst C dX12_readsRule_74 75 rfl 1 (by decide) ?_
      refine x_iconst C dX12_readsRule_75 76 rfl 4 (by decide) ?_
      obtain ⟨o76, ho76, hf⟩ := x_bind hf
      obtain ⟨w76, hw76, hf⟩ := x_bind hf
      refine x_callVl C dX12_readsRule_76 79 rfl ho76 cl11.1 rfl (cX12_sidec hw76) kX12_side kvX12_side w1705 ⟨rfl, rfl⟩ ⟨Nat.le_of_ble_eq_true rfl, Nat.le_of_ble_eq_true rfl⟩ ⟨Nat.zero_le _, Nat.zero_le _⟩ rfl rfl (Nat.le_of_ble_eq_true rfl) ?_
      refine x_lstore_n C dX12_readsRule_79 80 rfl rfl rfl [(3, .long (w76.1)), (0, .ref (x0)), (1, .long (x1))] rfl ?_
      refine x_aload_n C dX12_readsRule_80 81 rfl 1 rfl rfl ?_
      refine x_lload_n C dX12_readsRule_81 82 rfl 0 rfl rfl ?_
      refine x_lload_n C dX12_readsRule_82 83 rfl 2 rfl rfl ?_
      refine x_lcmp C dX12_readsRule_83 84 rfl ?_
      refine x_if_eq C dX12_readsRule_84 91 (by decide) 87 rfl (fun hc => ?_) (fun hc => ?_)
      · have hf := (if_pos hc).symm.trans hf
        refine x_iconst C dX12_readsRule_91 92 rfl 0 (by decide) ?_
        refine x_lv [1, 2, 0] (lv' := [(0, .ref (x0)), (1, .long (x1)), (3, .long (w76.1))]) rfl ?_
        exact jnX12_readsRule_m_92 C hf hE
      · have hf := (if_neg hc).symm.trans hf
        refine x_iconst C dX12_readsRule_87 88 rfl 1 (by decide) ?_
        refine x_goto C dX12_readsRule_88 92 (by decide) ?_
        refine x_lv [1, 2, 0] (lv' := [(0, .ref (x0)), (1, .long (x1)), (3, .long (w76.1))]) rfl ?_
        exact jnX12_readsRule_m_92 C hf hE
noncomputable def fJX12_readsRule_m_19 (σ : St) (x0 : Nat) (t0 : Int32) (t1 : Nat) : Option (St) :=
(isO σ t1 11).bind fun _ =>
(fX12_check σ t1 t0 3).bind fun w20 =>
if w20.1 = 0 then
(some w20.2)
else
((isO w20.2 x0 11).bind fun _ =>
(fX12_goes w20.2 x0).bind fun w28 =>
(isO w28 x0 11).bind fun _ =>
(fX12_side w28 x0 1 4).bind fun w34 =>
(isO w34.2 x0 11).bind fun _ =>
(fX12_fine w34.2 x0).bind fun w39 =>
if w39 = 0 then
(fJX12_readsRule_m_49 w34.2 x0 w34.1)
else
((isO w34.2 x0 11).bind fun _ =>
(fX12_goes w34.2 x0).bind fun w46 =>
fJX12_readsRule_m_49 w46 x0 w34.1))
set_option maxHeartbeats 4000000 in
set_option maxRecDepth 100000 in
theorem jnX12_readsRule_m_19 {X : xX} {σ : St} {x0 : Nat} {t0 : Int32} {t1 : Nat}  {c : St} (C : Ok X cX12_readsRule 6 RX12 rmX12_readsRule none) (hf : fJX12_readsRule_m_19 σ x0 t0 t1 = some c) (hE : ∀ r, c = r → xE1 X none r) : V X (0, 0) σ 19 [(0, .ref (x0))] [.int (t0), .ref (t1)] := by
  unfold fJX12_readsRule_m_19 at hf
  refine x_iconst C dX12_readsRule_19 20 rfl 3 (by decide) ?_
  obtain ⟨o20, ho20, hf⟩ := x_bind hf
  obtain ⟨w20, hw20, hf⟩ := x_bind hf
  refine x_callVi C dX12_readsRule_20 23 rfl ho20 cl11.1 rfl (cX12_checkc hw20) kX12_check kvX12_check w1679 ⟨rfl, rfl⟩ ⟨Nat.le_of_ble_eq_true rfl, Nat.le_of_ble_eq_true rfl⟩ ⟨Nat.zero_le _, Nat.zero_le _⟩ rfl rfl (Nat.le_of_ble_eq_true rfl) ?_
  refine x_if_ne C dX12_readsRule_23 27 (by decide) 26 rfl (fun hc => ?_) (fun hc => ?_)
  · have hf := (if_neg hc).symm.trans hf
    refine x_aload_n C dX12_readsRule_27 28 rfl 0 rfl rfl ?_
    obtain ⟨o28, ho28, hf⟩ := x_bind hf
    obtain ⟨w28, hw28, hf⟩ := x_bind hf
    refine x_callVv C dX12_readsRule_28 31 rfl ho28 cl11.1 rfl (cX12_goesc hw28) kX12_goes kvX12_goes w1652 ⟨rfl, rfl⟩ ⟨Nat.le_of_ble_eq_true rfl, Nat.le_of_ble_eq_true rfl⟩ ⟨Nat.zero_le _, Nat.zero_le _⟩ rfl rfl (Nat.le_of_ble_eq_true rfl) ?_
    refine x_aload_n C dX12_readsRule_31 32 rfl 0 rfl rfl ?_
    refine x_iconst C dX12_readsRule_32 33 rfl 1 (by decide) ?_
    refine x_iconst C dX12_readsRule_33 34 rfl 4 (by decide) ?_
    obtain ⟨o34, ho34, hf⟩ := x_bind hf
    obtain ⟨w34, hw34, hf⟩ := x_bind hf
    refine x_callVl C dX12_readsRule_34 37 rfl ho34 cl11.1 rfl (cX12_sidec hw34) kX12_side kvX12_side w1705 ⟨rfl, rfl⟩ ⟨Nat.le_of_ble_eq_true rfl, Nat.le_of_ble_eq_true rfl⟩ ⟨Nat.zero_le _, Nat.zero_le _⟩ rfl rfl (Nat.le_of_ble_eq_true rfl) ?_
    refine x_lstore_n C dX12_readsRule_37 38 rfl rfl rfl [(1, .long (w34.1)), (0, .ref (x0))] rfl ?_
    refine x_aload_n C dX12_readsRule_38 39 rfl 1 rfl rfl ?_
    obtain ⟨o39, ho39, hf⟩ := x_bind hf
    obtain ⟨w39, hw39, hf⟩ := x_bind hf
    refine x_callVi C dX12_readsRule_39 42 rfl ho39 cl11.1 rfl (cX12_finec hw39) kX12_fine kvX12_fine w1683 ⟨rfl, rfl⟩ ⟨Nat.le_of_ble_eq_true rfl, Nat.le_of_ble_eq_true rfl⟩ ⟨Nat.zero_le _, Nat.zero_le _⟩ rfl rfl (Nat.le_of_ble_eq_true rfl) ?_
    refine x_if_eq C dX12_readsRule_42 49 (by decide) 45 rfl (fun hc => ?_) (fun hc => ?_)
    · have hf := (if_pos hc).symm.trans hf
      refine x_lv [1, 0] (lv' := [(0, .ref (x0)), (1, .long (w34.1))]) rfl ?_
      exact jnX12_readsRule_m_49 C hf hE
    · have hf := (if_neg hc).symm.trans hf
      refine x_aload_n C dX12_readsRule_45 46 rfl 1 rfl rfl ?_
      obtain ⟨o46, ho46, hf⟩ := x_bind hf
      obtain ⟨w46, hw46, hf⟩ := x_bind hf
      refine x_callVv C dX12_readsRule_46 49 rfl ho46 cl11.1 rfl (cX12_goesc hw46) kX12_goes kvX12_goes w1652 ⟨rfl, rfl⟩ ⟨Nat.le_of_ble_eq_true rfl, Nat.le_of_ble_eq_true rfl⟩ ⟨Nat.zero_le _, Nat.zero_le _⟩ rfl rfl (Nat.le_of_ble_eq_true rfl) ?_
      refine x_lv [1, 0] (lv' := [(0, .ref (x0)), (1, .long (w34.1))]) rfl ?_
      exact jnX12_readsRule_m_49 C hf hE
  · have hf := (if_pos hc).symm.trans hf
    exact x_vret C (hE _ (Option.some.inj hf).symm) dX12_readsRule_26
noncomputable def fX12_readsRule (σ : St) (x0 : Nat) : Option (St) :=
(gR σ x0 11 15).bind fun v2 =>
(aL σ v2 1).bind fun v6 =>
if 0 ≤ (lg_cmp v6 6) then
(fJX12_readsRule_m_19 σ x0 0 x0)
else
(fJX12_readsRule_m_19 σ x0 1 x0)
set_option maxHeartbeats 4000000 in
set_option maxRecDepth 100000 in
theorem cX12_readsRulec {l : Launch} {G : xG} {A : Nat → Prop} {σ : St} {x0 : Nat} {c : St} (hf : fX12_readsRule σ x0 = some c) : Con l yX12_readsRule (xws yX12_readsRule cX12_readsRule 6 none) rmX12_readsRule [.ref (x0)] G A σ none c := by
  refine x_start rfl (Nat.le_of_ble_eq_true rfl) (fun X _ _ _ C hE0 => ?_)
  have hE : ∀ r, c = r → xE1 X none r := fun r e => e ▸ hE0
  show V X (0, 0) σ 0 [(0, .ref (x0))] []
  unfold fX12_readsRule at hf
  refine x_aload_n C dX12_readsRule_0 1 rfl 0 rfl rfl ?_
  refine x_aload_n C dX12_readsRule_1 2 rfl 0 rfl rfl ?_
  obtain ⟨v2, hv2, hf⟩ := x_bind hf
  refine x_getR C dX12_readsRule_2 5 rfl hv2 cl11 rfl w1458 ?_
  refine x_iconst C dX12_readsRule_5 6 rfl 1 (by decide) ?_
  obtain ⟨v6, hv6, hf⟩ := x_bind hf
  refine x_laload C dX12_readsRule_6 7 rfl hv6 ?_
  refine x_ldc2 C dX12_readsRule_7 10 rfl w1704 ?_
  refine x_lcmp C dX12_readsRule_10 11 rfl ?_
  refine x_if_ge C dX12_readsRule_11 18 (by decide) 14 rfl (fun hc => ?_) (fun hc => ?_)
  · have hf := (if_pos hc).symm.trans hf
    refine x_iconst C dX12_readsRule_18 19 rfl 0 (by decide) ?_
    exact jnX12_readsRule_m_19 C hf hE
  · have hf := (if_neg hc).symm.trans hf
    refine x_iconst C dX12_readsRule_14 15 rfl 1 (by decide) ?_
    refine x_goto C dX12_readsRule_15 19 (by decide) ?_
    exact jnX12_readsRule_m_19 C hf hE
theorem dX12_rounds_0 : decode cX12_rounds 0 = .ok (.iconst 0, 1) := by decide +kernel
theorem dX12_rounds_1 : decode cX12_rounds 1 = .ok (.istore_n 2, 1) := by decide +kernel
theorem dX12_rounds_2 : decode cX12_rounds 2 = .ok (.iconst 0, 1) := by decide +kernel
theorem dX12_rounds_3 : decode cX12_rounds 3 = .ok (.istore_n 3, 1) := by decide +kernel
theorem dX12_rounds_4 : decode cX12_rounds 4 = .ok (.iload_n 3, 1) := by decide +kernel
theorem dX12_rounds_5 : decode cX12_rounds 5 = .ok (.aload_n 0, 1) := by decide +kernel
theorem dX12_rounds_6 : decode cX12_rounds 6 = .ok (.iload_n 1, 1) := by decide +kernel
theorem dX12_rounds_7 : decode cX12_rounds 7 = .ok (.invokevirtual 471, 3) := by decide +kernel
theorem dX12_rounds_10 : decode cX12_rounds 10 = .ok (.if_icmp .ge 20, 3) := by decide +kernel
theorem dX12_rounds_13 : decode cX12_rounds 13 = .ok (.iload_n 2, 1) := by decide +kernel
theorem dX12_rounds_14 : decode cX12_rounds 14 = .ok (.aload_n 0, 1) := by decide +kernel
theorem dX12_rounds_15 : decode cX12_rounds 15 = .ok (.getfield 85, 3) := by decide +kernel
theorem dX12_rounds_18 : decode cX12_rounds 18 = .ok (.iload_n 3, 1) := by decide +kernel
theorem dX12_rounds_19 : decode cX12_rounds 19 = .ok (.iaload, 1) := by decide +kernel
theorem dX12_rounds_20 : decode cX12_rounds 20 = .ok (.invokestatic 532, 3) := by decide +kernel
theorem dX12_rounds_23 : decode cX12_rounds 23 = .ok (.istore_n 2, 1) := by decide +kernel
theorem dX12_rounds_24 : decode cX12_rounds 24 = .ok (.iinc 3 1, 3) := by decide +kernel
theorem dX12_rounds_27 : decode cX12_rounds 27 = .ok (.goto (-23), 3) := by decide +kernel
theorem dX12_rounds_30 : decode cX12_rounds 30 = .ok (.iload_n 2, 1) := by decide +kernel
theorem dX12_rounds_31 : decode cX12_rounds 31 = .ok (.ireturn, 1) := by decide +kernel
abbrev rmX12_rounds : Room := { frames := 2, cells := 0, slots := 0, locals := 60 }
noncomputable def fLX12_rounds_4 (σ : St) (x0 : Nat) (x1 : Int32) (a : Int32 × Int32) : Option ((Int32 × Int32) ⊕ (Int32)) :=
(isO σ x0 11).bind fun _ =>
(fX12_stepsOf σ x0 x1).bind fun w7 =>
if w7 ≤ a.2 then
(some (Sum.inr a.1))
else
((gR σ x0 11 49).bind fun v15 =>
(aI σ v15 0 a.2).bind fun v19 =>
xlet (imax a.1 v19) fun v23 =>
xlet (a.2 + 1) fun v24 =>
some (Sum.inl (v23, v24)))
set_option maxHeartbeats 4000000 in
set_option maxRecDepth 100000 in
theorem lpX12_rounds_4 {X : xX} {σ : St} {x0 : Nat} {x1 : Int32}  {a0 : Int32 × Int32} {b : Int32} (C : Ok X cX12_rounds 4 RX12 rmX12_rounds (some .int)) (hb : iterP (fLX12_rounds_4 σ x0 x1) a0 = some b) (hy0 : ∀ s, b = s → V X (0, 0) σ 30 [(2, .int (s))] []) : V X (0, 0) σ 4 [(0, .ref (x0)), (1, .int (x1)), (2, .int (a0.1)), (3, .int (a0.2))] [] := by
  obtain ⟨n, hn⟩ := iterP_some hb
  refine x_loop (P := fun a => V X (0, 0) σ 4 [(0, .ref (x0)), (1, .int (x1)), (2, .int (a.1)), (3, .int (a.2))] []) ?_ n a0 hn
  intro a c hf hK hxx
  have hx0 : ∀ s, c = Sum.inr s → V X (0, 0) σ 30 [(2, .int (s))] [] := fun s e => hy0 s (hxx _ e).symm
  unfold fLX12_rounds_4 at hf
  refine x_iload_n C dX12_rounds_4 5 rfl 3 rfl rfl ?_
  refine x_aload_n C dX12_rounds_5 6 rfl 0 rfl rfl ?_
  refine x_iload_n C dX12_rounds_6 7 rfl 1 rfl rfl ?_
  obtain ⟨o7, ho7, hf⟩ := x_bind hf
  obtain ⟨w7, hw7, hf⟩ := x_bind hf
  refine x_callVi C dX12_rounds_7 10 rfl ho7 cl11.1 rfl (cX12_stepsOfc hw7) kX12_stepsOf kvX12_stepsOf w1980 ⟨rfl, rfl⟩ ⟨Nat.le_of_ble_eq_true rfl, Nat.le_of_ble_eq_true rfl⟩ ⟨Nat.zero_le _, Nat.zero_le _⟩ rfl rfl (Nat.le_of_ble_eq_true rfl) ?_
  refine x_icmp_ge C dX12_rounds_10 30 (by decide) 13 rfl (fun hc => ?_) (fun hc => ?_)
  · have hf := (if_pos hc).symm.trans hf
    refine x_lv [2] (lv' := [(2, .int (a.1))]) rfl ?_
    exact hx0 _ (Option.some.inj hf).symm
  · have hf := (if_neg hc).symm.trans hf
    refine x_iload_n C dX12_rounds_13 14 rfl 2 rfl rfl ?_
    refine x_aload_n C dX12_rounds_14 15 rfl 0 rfl rfl ?_
    obtain ⟨v15, hv15, hf⟩ := x_bind hf
    refine x_getR C dX12_rounds_15 18 rfl hv15 cl11 rfl w1492 ?_
    refine x_iload_n C dX12_rounds_18 19 rfl 3 rfl rfl ?_
    obtain ⟨v19, hv19, hf⟩ := x_bind hf
    refine x_iaload C dX12_rounds_19 20 rfl hv19 ?_
    refine x_mmax C dX12_rounds_20 23 rfl w2009 mmaxw ⟨Nat.le_of_ble_eq_true rfl, Nat.le_of_ble_eq_true rfl⟩ ⟨Nat.zero_le _, Nat.zero_le _⟩ ?_
    obtain ⟨v23, ev23, hf⟩ := xlet_some hf
    refine x_topi ev23 ?_
    refine x_istore_n C dX12_rounds_23 24 rfl rfl rfl [(2, .int (v23)), (0, .ref (x0)), (1, .int (x1)), (3, .int (a.2))] rfl ?_
    obtain ⟨v24, ev24, hf⟩ := xlet_some hf
    refine x_iinc C dX12_rounds_24 27 rfl 3 rfl v24 ev24 rfl [(3, .int (v24)), (2, .int (v23)), (0, .ref (x0)), (1, .int (x1))] rfl ?_
    refine x_goto C dX12_rounds_27 4 (by decide) ?_
    refine x_lv [2, 3, 1, 0] (lv' := [(0, .ref (x0)), (1, .int (x1)), (2, .int (v23)), (3, .int (v24))]) rfl ?_
    exact hK _ (Option.some.inj hf).symm
noncomputable def fX12_rounds (σ : St) (x0 : Nat) (x1 : Int32) : Option (Int32) :=
(iterP (fLX12_rounds_4 σ x0 x1) (0, 0)).bind fun b4 =>
some b4
set_option maxHeartbeats 4000000 in
set_option maxRecDepth 100000 in
theorem cX12_roundsc {l : Launch} {G : xG} {A : Nat → Prop} {σ : St} {x0 : Nat} {x1 : Int32} {c : Int32} (hf : fX12_rounds σ x0 x1 = some c) : Con l yX12_rounds (xws yX12_rounds cX12_rounds 4 (some .int)) rmX12_rounds [.ref (x0), .int (x1)] G A σ (some (.int c)) σ := by
  refine x_start rfl (Nat.le_of_ble_eq_true rfl) (fun X _ _ _ C hE0 => ?_)
  have hE : ∀ r, c = r → xE1 X (some (.int r)) σ := fun r e => e ▸ hE0
  show V X (0, 0) σ 0 [(0, .ref (x0)), (1, .int (x1))] []
  unfold fX12_rounds at hf
  refine x_iconst C dX12_rounds_0 1 rfl 0 (by decide) ?_
  refine x_istore_n C dX12_rounds_1 2 rfl rfl rfl [(2, .int (0)), (0, .ref (x0)), (1, .int (x1))] rfl ?_
  refine x_iconst C dX12_rounds_2 3 rfl 0 (by decide) ?_
  refine x_istore_n C dX12_rounds_3 4 rfl rfl rfl [(3, .int (0)), (2, .int (0)), (0, .ref (x0)), (1, .int (x1))] rfl ?_
  obtain ⟨b4, hb4, hf⟩ := x_bind hf
  refine x_lv [2, 3, 1, 0] (lv' := [(0, .ref (x0)), (1, .int (x1)), (2, .int (0)), (3, .int (0))]) rfl ?_
  refine lpX12_rounds_4 C hb4 (fun s4 e4 => ?_)
  subst e4
  refine x_iload_n C dX12_rounds_30 31 rfl 0 rfl rfl ?_
  exact x_iret C (hE _ (Option.some.inj hf).symm) dX12_rounds_31
theorem dX12_run_0 : decode cX12_run 0 = .ok (.aload_n 0, 1) := by decide +kernel
theorem dX12_run_1 : decode cX12_run 1 = .ok (.iconst 0, 1) := by decide +kernel
theorem dX12_run_2 : decode cX12_run 2 = .ok (.putfield 1, 3) := by decide +kernel
theorem dX12_run_5 : decode cX12_run 5 = .ok (.aload_n 0, 1) := by decide +kernel
theorem dX12_run_6 : decode cX12_run 6 = .ok (.iload_n 1, 1) := by decide +kernel
theorem dX12_run_7 : decode cX12_run 7 = .ok (.invokestatic 452, 3) := by decide +kernel
theorem dX12_run_10 : decode cX12_run 10 = .ok (.ifCond .eq 19, 3) := by decide +kernel
theorem dX12_run_13 : decode cX12_run 13 = .ok (.iload_n 3, 1) := by decide +kernel
theorem dX12_run_14 : decode cX12_run 14 = .ok (.i2l, 1) := by decide +kernel
theorem dX12_run_15 : decode cX12_run 15 = .ok (.lconst 0, 1) := by decide +kernel
theorem dX12_run_16 : decode cX12_run 16 = .ok (.ldc2_w 434, 3) := by decide +kernel
theorem dX12_run_19 : decode cX12_run 19 = .ok (.invokestatic 130, 3) := by decide +kernel
theorem dX12_run_22 : decode cX12_run 22 = .ok (.ifCond .eq 7, 3) := by decide +kernel
theorem dX12_run_25 : decode cX12_run 25 = .ok (.iconst 1, 1) := by decide +kernel
theorem dX12_run_26 : decode cX12_run 26 = .ok (.goto 4, 3) := by decide +kernel
theorem dX12_run_29 : decode cX12_run 29 = .ok (.iconst 0, 1) := by decide +kernel
theorem dX12_run_30 : decode cX12_run 30 = .ok (.iconst 1, 1) := by decide +kernel
theorem dX12_run_31 : decode cX12_run 31 = .ok (.invokevirtual 265, 3) := by decide +kernel
theorem dX12_run_34 : decode cX12_run 34 = .ok (.ifCond .eq 15, 3) := by decide +kernel
theorem dX12_run_37 : decode cX12_run 37 = .ok (.aload_n 0, 1) := by decide +kernel
theorem dX12_run_38 : decode cX12_run 38 = .ok (.iload_n 2, 1) := by decide +kernel
theorem dX12_run_39 : decode cX12_run 39 = .ok (.invokestatic 486, 3) := by decide +kernel
theorem dX12_run_42 : decode cX12_run 42 = .ok (.iconst 2, 1) := by decide +kernel
theorem dX12_run_43 : decode cX12_run 43 = .ok (.invokevirtual 265, 3) := by decide +kernel
theorem dX12_run_46 : decode cX12_run 46 = .ok (.ifCond .ne 5, 3) := by decide +kernel
theorem dX12_run_49 : decode cX12_run 49 = .ok (.iconst 0, 1) := by decide +kernel
theorem dX12_run_50 : decode cX12_run 50 = .ok (.ireturn, 1) := by decide +kernel
theorem dX12_run_51 : decode cX12_run 51 = .ok (.aload_n 0, 1) := by decide +kernel
theorem dX12_run_52 : decode cX12_run 52 = .ok (.aload_n 0, 1) := by decide +kernel
theorem dX12_run_53 : decode cX12_run 53 = .ok (.iload_n 1, 1) := by decide +kernel
theorem dX12_run_54 : decode cX12_run 54 = .ok (.invokevirtual 402, 3) := by decide +kernel
theorem dX12_run_57 : decode cX12_run 57 = .ok (.iload_n 2, 1) := by decide +kernel
theorem dX12_run_58 : decode cX12_run 58 = .ok (.invokevirtual 363, 3) := by decide +kernel
theorem dX12_run_61 : decode cX12_run 61 = .ok (.lstore 4, 2) := by decide +kernel
theorem dX12_run_63 : decode cX12_run 63 = .ok (.iload_n 3, 1) := by decide +kernel
theorem dX12_run_64 : decode cX12_run 64 = .ok (.ifCond .ne 10, 3) := by decide +kernel
theorem dX12_run_67 : decode cX12_run 67 = .ok (.aload_n 0, 1) := by decide +kernel
theorem dX12_run_68 : decode cX12_run 68 = .ok (.getfield 319, 3) := by decide +kernel
theorem dX12_run_71 : decode cX12_run 71 = .ok (.goto 20, 3) := by decide +kernel
theorem dX12_run_74 : decode cX12_run 74 = .ok (.iload_n 3, 1) := by decide +kernel
theorem dX12_run_75 : decode cX12_run 75 = .ok (.iconst 1, 1) := by decide +kernel
theorem dX12_run_76 : decode cX12_run 76 = .ok (.if_icmp .ne 10, 3) := by decide +kernel
theorem dX12_run_79 : decode cX12_run 79 = .ok (.aload_n 0, 1) := by decide +kernel
theorem dX12_run_80 : decode cX12_run 80 = .ok (.getfield 316, 3) := by decide +kernel
theorem dX12_run_83 : decode cX12_run 83 = .ok (.goto 8, 3) := by decide +kernel
theorem dX12_run_86 : decode cX12_run 86 = .ok (.lload 4, 2) := by decide +kernel
theorem dX12_run_88 : decode cX12_run 88 = .ok (.invokestatic 136, 3) := by decide +kernel
theorem dX12_run_91 : decode cX12_run 91 = .ok (.ireturn, 1) := by decide +kernel
abbrev rmX12_run : Room := { frames := 8, cells := 0, slots := 0, locals := 204 }
noncomputable def fJX12_run_m_30 (σ : St) (x0 : Nat) (x1 : Int32) (x2 : Int32) (x3 : Int32) (t0 : Int32) (t1 : Nat) : Option ((Int32 × St)) :=
(isO σ t1 11).bind fun _ =>
(fX12_right σ t1 t0 1).bind fun w31 =>
if w31.1 = 0 then
(some (0, w31.2))
else
((fX12_isWay x2).bind fun w39 =>
(isO w31.2 x0 11).bind fun _ =>
(fX12_right w31.2 x0 w39 2).bind fun w43 =>
if w43.1 = 0 then
(some (0, w43.2))
else
((isO w43.2 x0 11).bind fun _ =>
(fX12_wordAt w43.2 x0 x1).bind fun w54 =>
(isO w43.2 x0 11).bind fun _ =>
(fX12_runs w43.2 x0 w54 x2).bind fun w58 =>
if x3 = 0 then
((gI w58.2 x0 11 24).bind fun v68 =>
some (v68, w58.2))
else
(if x3 = ((1 : Int32)) then
((gI w58.2 x0 11 23).bind fun v80 =>
some (v80, w58.2))
else
((fX12_length w58.1).bind fun w88 =>
some (w88, w58.2)))))
set_option maxHeartbeats 4000000 in
set_option maxRecDepth 100000 in
theorem jnX12_run_m_30 {X : xX} {σ : St} {x0 : Nat} {x1 : Int32} {x2 : Int32} {x3 : Int32} {t0 : Int32} {t1 : Nat}  {c : (Int32 × St)} (C : Ok X cX12_run 6 RX12 rmX12_run (some .int)) (hf : fJX12_run_m_30 σ x0 x1 x2 x3 t0 t1 = some c) (hE : ∀ r, c = r → xE1 X (some (.int r.1)) r.2) : V X (0, 0) σ 30 [(0, .ref (x0)), (1, .int (x1)), (2, .int (x2)), (3, .int (x3))] [.int (t0), .ref (t1)] := by
  unfold fJX12_run_m_30 at hf
  refine x_iconst C dX12_run_30 31 rfl 1 (by decide) ?_
  obtain ⟨o31, ho31, hf⟩ := x_bind hf
  obtain ⟨w31, hw31, hf⟩ := x_bind hf
  refine x_callVi C dX12_run_31 34 rfl ho31 cl11.1 rfl (cX12_rightc hw31) kX12_right kvX12_right w1648 ⟨rfl, rfl⟩ ⟨Nat.le_of_ble_eq_true rfl, Nat.le_of_ble_eq_true rfl⟩ ⟨Nat.zero_le _, Nat.zero_le _⟩ rfl rfl (Nat.le_of_ble_eq_true rfl) ?_
  refine x_if_eq C dX12_run_34 49 (by decide) 37 rfl (fun hc => ?_) (fun hc => ?_)
  · have hf := (if_pos hc).symm.trans hf
    refine x_iconst C dX12_run_49 50 rfl 0 (by decide) ?_
    exact x_iret C (hE _ (Option.some.inj hf).symm) dX12_run_50
  · have hf := (if_neg hc).symm.trans hf
    refine x_aload_n C dX12_run_37 38 rfl 0 rfl rfl ?_
    refine x_iload_n C dX12_run_38 39 rfl 2 rfl rfl ?_
    obtain ⟨w39, hw39, hf⟩ := x_bind hf
    refine x_callSi C dX12_run_39 42 rfl (cX12_isWayc hw39) kX12_isWay ksX12_isWay w2046 ⟨rfl, rfl⟩ ⟨Nat.le_of_ble_eq_true rfl, Nat.le_of_ble_eq_true rfl⟩ ⟨Nat.zero_le _, Nat.zero_le _⟩ rfl rfl (Nat.le_of_ble_eq_true rfl) ?_
    refine x_iconst C dX12_run_42 43 rfl 2 (by decide) ?_
    obtain ⟨o43, ho43, hf⟩ := x_bind hf
    obtain ⟨w43, hw43, hf⟩ := x_bind hf
    refine x_callVi C dX12_run_43 46 rfl ho43 cl11.1 rfl (cX12_rightc hw43) kX12_right kvX12_right w1648 ⟨rfl, rfl⟩ ⟨Nat.le_of_ble_eq_true rfl, Nat.le_of_ble_eq_true rfl⟩ ⟨Nat.zero_le _, Nat.zero_le _⟩ rfl rfl (Nat.le_of_ble_eq_true rfl) ?_
    refine x_if_ne C dX12_run_46 51 (by decide) 49 rfl (fun hc => ?_) (fun hc => ?_)
    · have hf := (if_neg hc).symm.trans hf
      refine x_aload_n C dX12_run_51 52 rfl 0 rfl rfl ?_
      refine x_aload_n C dX12_run_52 53 rfl 0 rfl rfl ?_
      refine x_iload_n C dX12_run_53 54 rfl 1 rfl rfl ?_
      obtain ⟨o54, ho54, hf⟩ := x_bind hf
      obtain ⟨w54, hw54, hf⟩ := x_bind hf
      refine x_callVl C dX12_run_54 57 rfl ho54 cl11.1 rfl (cX12_wordAtc hw54) kX12_wordAt kvX12_wordAt w1845 ⟨rfl, rfl⟩ ⟨Nat.le_of_ble_eq_true rfl, Nat.le_of_ble_eq_true rfl⟩ ⟨Nat.zero_le _, Nat.zero_le _⟩ rfl rfl (Nat.le_of_ble_eq_true rfl) ?_
      refine x_iload_n C dX12_run_57 58 rfl 2 rfl rfl ?_
      obtain ⟨o58, ho58, hf⟩ := x_bind hf
      obtain ⟨w58, hw58, hf⟩ := x_bind hf
      refine x_callVl C dX12_run_58 61 rfl ho58 cl11.1 rfl (cX12_runsc hw58) kX12_runs kvX12_runs w1802 ⟨rfl, rfl⟩ ⟨Nat.le_of_ble_eq_true rfl, Nat.le_of_ble_eq_true rfl⟩ ⟨Nat.zero_le _, Nat.zero_le _⟩ rfl rfl (Nat.le_of_ble_eq_true rfl) ?_
      refine x_lstore C dX12_run_61 63 rfl rfl [(4, .long (w58.1)), (0, .ref (x0)), (1, .int (x1)), (2, .int (x2)), (3, .int (x3))] rfl ?_
      refine x_iload_n C dX12_run_63 64 rfl 4 rfl rfl ?_
      refine x_if_ne C dX12_run_64 74 (by decide) 67 rfl (fun hc => ?_) (fun hc => ?_)
      · have hf := (if_neg hc).symm.trans hf
        refine x_iload_n C dX12_run_74 75 rfl 4 rfl rfl ?_
        refine x_iconst C dX12_run_75 76 rfl 1 (by decide) ?_
        refine x_icmp_ne C dX12_run_76 86 (by decide) 79 rfl (fun hc => ?_) (fun hc => ?_)
        · have hf := (if_neg hc).symm.trans hf
          refine x_lload C dX12_run_86 88 rfl 0 rfl ?_
          obtain ⟨w88, hw88, hf⟩ := x_bind hf
          refine x_callSi C dX12_run_88 91 rfl (cX12_lengthc hw88) kX12_length ksX12_length w1728 ⟨rfl, rfl⟩ ⟨Nat.le_of_ble_eq_true rfl, Nat.le_of_ble_eq_true rfl⟩ ⟨Nat.zero_le _, Nat.zero_le _⟩ rfl rfl (Nat.le_of_ble_eq_true rfl) ?_
          exact x_iret C (hE _ (Option.some.inj hf).symm) dX12_run_91
        · have hf := (if_pos hc).symm.trans hf
          refine x_aload_n C dX12_run_79 80 rfl 1 rfl rfl ?_
          obtain ⟨v80, hv80, hf⟩ := x_bind hf
          refine x_getI C dX12_run_80 83 rfl hv80 cl11 rfl w1466 ?_
          refine x_goto C dX12_run_83 91 (by decide) ?_
          exact x_iret C (hE _ (Option.some.inj hf).symm) dX12_run_91
      · have hf := (if_pos hc).symm.trans hf
        refine x_aload_n C dX12_run_67 68 rfl 1 rfl rfl ?_
        obtain ⟨v68, hv68, hf⟩ := x_bind hf
        refine x_getI C dX12_run_68 71 rfl hv68 cl11 rfl w1467 ?_
        refine x_goto C dX12_run_71 91 (by decide) ?_
        exact x_iret C (hE _ (Option.some.inj hf).symm) dX12_run_91
    · have hf := (if_pos hc).symm.trans hf
      refine x_iconst C dX12_run_49 50 rfl 0 (by decide) ?_
      exact x_iret C (hE _ (Option.some.inj hf).symm) dX12_run_50
noncomputable def fJX12_run_m_29 (σ : St) (x0 : Nat) (x1 : Int32) (x2 : Int32) (x3 : Int32) (t0 : Nat) : Option ((Int32 × St)) :=
fJX12_run_m_30 σ x0 x1 x2 x3 0 t0
set_option maxHeartbeats 4000000 in
set_option maxRecDepth 100000 in
theorem jnX12_run_m_29 {X : xX} {σ : St} {x0 : Nat} {x1 : Int32} {x2 : Int32} {x3 : Int32} {t0 : Nat}  {c : (Int32 × St)} (C : Ok X cX12_run 6 RX12 rmX12_run (some .int)) (hf : fJX12_run_m_29 σ x0 x1 x2 x3 t0 = some c) (hE : ∀ r, c = r → xE1 X (some (.int r.1)) r.2) : V X (0, 0) σ 29 [(0, .ref (x0)), (1, .int (x1)), (2, .int (x2)), (3, .int (x3))] [.ref (t0)] := by
  unfold fJX12_run_m_29 at hf
  refine x_iconst C dX12_run_29 30 rfl 0 (by decide) ?_
  exact jnX12_run_m_30 C hf hE
noncomputable def fX12_run (σ : St) (x0 : Nat) (x1 : Int32) (x2 : Int32) (x3 : Int32) : Option ((Int32 × St)) :=
(wrF σ x0 11 0 (.int (0))).bind fun σ2 =>
(fX12_isPlace x1).bind fun w7 =>
if w7 = 0 then
(fJX12_run_m_29 σ2 x0 x1 x2 x3 x0)
else
((fX12_isIn x3.toInt64 0 2).bind fun w19 =>
if w19 = 0 then
(fJX12_run_m_29 σ2 x0 x1 x2 x3 x0)
else
(fJX12_run_m_30 σ2 x0 x1 x2 x3 1 x0))
set_option maxHeartbeats 4000000 in
set_option maxRecDepth 100000 in
theorem cX12_runc {l : Launch} {G : xG} {A : Nat → Prop} {σ : St} {x0 : Nat} {x1 : Int32} {x2 : Int32} {x3 : Int32} {c : (Int32 × St)} (hf : fX12_run σ x0 x1 x2 x3 = some c) : Con l yX12_run (xws yX12_run cX12_run 6 (some .int)) rmX12_run [.ref (x0), .int (x1), .int (x2), .int (x3)] G A σ (some (.int c.1)) c.2 := by
  refine x_start rfl (Nat.le_of_ble_eq_true rfl) (fun X _ _ _ C hE0 => ?_)
  have hE : ∀ r, c = r → xE1 X (some (.int r.1)) r.2 := fun r e => e ▸ hE0
  show V X (0, 0) σ 0 [(0, .ref (x0)), (1, .int (x1)), (2, .int (x2)), (3, .int (x3))] []
  unfold fX12_run at hf
  refine x_aload_n C dX12_run_0 1 rfl 0 rfl rfl ?_
  refine x_iconst C dX12_run_1 2 rfl 0 (by decide) ?_
  obtain ⟨σ2, hσ2, hf⟩ := x_bind hf
  refine x_putX C dX12_run_2 5 rfl hσ2 cl11 rfl w1443 rfl rfl rfl ?_
  refine x_aload_n C dX12_run_5 6 rfl 0 rfl rfl ?_
  refine x_iload_n C dX12_run_6 7 rfl 1 rfl rfl ?_
  obtain ⟨w7, hw7, hf⟩ := x_bind hf
  refine x_callSi C dX12_run_7 10 rfl (cX12_isPlacec hw7) kX12_isPlace ksX12_isPlace w1942 ⟨rfl, rfl⟩ ⟨Nat.le_of_ble_eq_true rfl, Nat.le_of_ble_eq_true rfl⟩ ⟨Nat.zero_le _, Nat.zero_le _⟩ rfl rfl (Nat.le_of_ble_eq_true rfl) ?_
  refine x_if_eq C dX12_run_10 29 (by decide) 13 rfl (fun hc => ?_) (fun hc => ?_)
  · have hf := (if_pos hc).symm.trans hf
    exact jnX12_run_m_29 C hf hE
  · have hf := (if_neg hc).symm.trans hf
    refine x_iload_n C dX12_run_13 14 rfl 3 rfl rfl ?_
    refine x_i2l C dX12_run_14 15 rfl ?_
    refine x_lconst C dX12_run_15 16 rfl 0 (by decide) ?_
    refine x_ldc2 C dX12_run_16 19 rfl w1900 ?_
    obtain ⟨w19, hw19, hf⟩ := x_bind hf
    refine x_callSi C dX12_run_19 22 rfl (cX12_isInc hw19) kX12_isIn ksX12_isIn w1645 ⟨rfl, rfl⟩ ⟨Nat.le_of_ble_eq_true rfl, Nat.le_of_ble_eq_true rfl⟩ ⟨Nat.zero_le _, Nat.zero_le _⟩ rfl rfl (Nat.le_of_ble_eq_true rfl) ?_
    refine x_if_eq C dX12_run_22 29 (by decide) 25 rfl (fun hc => ?_) (fun hc => ?_)
    · have hf := (if_pos hc).symm.trans hf
      exact jnX12_run_m_29 C hf hE
    · have hf := (if_neg hc).symm.trans hf
      refine x_iconst C dX12_run_25 26 rfl 1 (by decide) ?_
      refine x_goto C dX12_run_26 30 (by decide) ?_
      exact jnX12_run_m_30 C hf hE
theorem dX12_said_0 : decode cX12_said 0 = .ok (.aload_n 0, 1) := by decide +kernel
theorem dX12_said_1 : decode cX12_said 1 = .ok (.iconst 0, 1) := by decide +kernel
theorem dX12_said_2 : decode cX12_said 2 = .ok (.putfield 1, 3) := by decide +kernel
theorem dX12_said_5 : decode cX12_said 5 = .ok (.iload_n 1, 1) := by decide +kernel
theorem dX12_said_6 : decode cX12_said 6 = .ok (.i2l, 1) := by decide +kernel
theorem dX12_said_7 : decode cX12_said 7 = .ok (.lconst 0, 1) := by decide +kernel
theorem dX12_said_8 : decode cX12_said 8 = .ok (.aload_n 0, 1) := by decide +kernel
theorem dX12_said_9 : decode cX12_said 9 = .ok (.getfield 507, 3) := by decide +kernel
theorem dX12_said_12 : decode cX12_said 12 = .ok (.iconst 1, 1) := by decide +kernel
theorem dX12_said_13 : decode cX12_said 13 = .ok (.isub, 1) := by decide +kernel
theorem dX12_said_14 : decode cX12_said 14 = .ok (.i2l, 1) := by decide +kernel
theorem dX12_said_15 : decode cX12_said 15 = .ok (.invokestatic 130, 3) := by decide +kernel
theorem dX12_said_18 : decode cX12_said 18 = .ok (.ifCond .eq 12, 3) := by decide +kernel
theorem dX12_said_21 : decode cX12_said 21 = .ok (.aload_n 0, 1) := by decide +kernel
theorem dX12_said_22 : decode cX12_said 22 = .ok (.getfield 64, 3) := by decide +kernel
theorem dX12_said_25 : decode cX12_said 25 = .ok (.iload_n 1, 1) := by decide +kernel
theorem dX12_said_26 : decode cX12_said 26 = .ok (.baload, 1) := by decide +kernel
theorem dX12_said_27 : decode cX12_said 27 = .ok (.goto 4, 3) := by decide +kernel
theorem dX12_said_30 : decode cX12_said 30 = .ok (.iconst (-1), 1) := by decide +kernel
theorem dX12_said_31 : decode cX12_said 31 = .ok (.ireturn, 1) := by decide +kernel
abbrev rmX12_said : Room := { frames := 1, cells := 0, slots := 0, locals := 25 }
noncomputable def fX12_said (σ : St) (x0 : Nat) (x1 : Int32) : Option ((Int32 × St)) :=
(wrF σ x0 11 0 (.int (0))).bind fun σ2 =>
(gI σ2 x0 11 41).bind fun v9 =>
(fX12_isIn x1.toInt64 0 ((v9 - 1).toInt64)).bind fun w15 =>
if w15 = 0 then
(some ((-1), σ2))
else
((gR σ2 x0 11 40).bind fun v22 =>
(aI σ2 v22 2 x1).bind fun v26 =>
some (v26, σ2))
set_option maxHeartbeats 4000000 in
set_option maxRecDepth 100000 in
theorem cX12_saidc {l : Launch} {G : xG} {A : Nat → Prop} {σ : St} {x0 : Nat} {x1 : Int32} {c : (Int32 × St)} (hf : fX12_said σ x0 x1 = some c) : Con l yX12_said (xws yX12_said cX12_said 2 (some .int)) rmX12_said [.ref (x0), .int (x1)] G A σ (some (.int c.1)) c.2 := by
  refine x_start rfl (Nat.le_of_ble_eq_true rfl) (fun X _ _ _ C hE0 => ?_)
  have hE : ∀ r, c = r → xE1 X (some (.int r.1)) r.2 := fun r e => e ▸ hE0
  show V X (0, 0) σ 0 [(0, .ref (x0)), (1, .int (x1))] []
  unfold fX12_said at hf
  refine x_aload_n C dX12_said_0 1 rfl 0 rfl rfl ?_
  refine x_iconst C dX12_said_1 2 rfl 0 (by decide) ?_
  obtain ⟨σ2, hσ2, hf⟩ := x_bind hf
  refine x_putX C dX12_said_2 5 rfl hσ2 cl11 rfl w1443 rfl rfl rfl ?_
  refine x_iload_n C dX12_said_5 6 rfl 1 rfl rfl ?_
  refine x_i2l C dX12_said_6 7 rfl ?_
  refine x_lconst C dX12_said_7 8 rfl 0 (by decide) ?_
  refine x_aload_n C dX12_said_8 9 rfl 0 rfl rfl ?_
  obtain ⟨v9, hv9, hf⟩ := x_bind hf
  refine x_getI C dX12_said_9 12 rfl hv9 cl11 rfl w1484 ?_
  refine x_iconst C dX12_said_12 13 rfl 1 (by decide) ?_
  refine x_isub C dX12_said_13 14 rfl ?_
  refine x_i2l C dX12_said_14 15 rfl ?_
  obtain ⟨w15, hw15, hf⟩ := x_bind hf
  refine x_callSi C dX12_said_15 18 rfl (cX12_isInc hw15) kX12_isIn ksX12_isIn w1645 ⟨rfl, rfl⟩ ⟨Nat.le_of_ble_eq_true rfl, Nat.le_of_ble_eq_true rfl⟩ ⟨Nat.zero_le _, Nat.zero_le _⟩ rfl rfl (Nat.le_of_ble_eq_true rfl) ?_
  refine x_if_eq C dX12_said_18 30 (by decide) 21 rfl (fun hc => ?_) (fun hc => ?_)
  · have hf := (if_pos hc).symm.trans hf
    refine x_iconst C dX12_said_30 31 rfl (-1) (by decide) ?_
    exact x_iret C (hE _ (Option.some.inj hf).symm) dX12_said_31
  · have hf := (if_neg hc).symm.trans hf
    refine x_aload_n C dX12_said_21 22 rfl 0 rfl rfl ?_
    obtain ⟨v22, hv22, hf⟩ := x_bind hf
    refine x_getR C dX12_said_22 25 rfl hv22 cl11 rfl w1483 ?_
    refine x_iload_n C dX12_said_25 26 rfl 1 rfl rfl ?_
    obtain ⟨v26, hv26, hf⟩ := x_bind hf
    refine x_baload C dX12_said_26 27 rfl hv26 ?_
    refine x_goto C dX12_said_27 31 (by decide) ?_
    exact x_iret C (hE _ (Option.some.inj hf).symm) dX12_said_31
theorem dX12_says_0 : decode cX12_says 0 = .ok (.aload_n 0, 1) := by decide +kernel
theorem dX12_says_1 : decode cX12_says 1 = .ok (.getfield 64, 3) := by decide +kernel
theorem dX12_says_4 : decode cX12_says 4 = .ok (.aload_n 0, 1) := by decide +kernel
theorem dX12_says_5 : decode cX12_says 5 = .ok (.getfield 507, 3) := by decide +kernel
theorem dX12_says_8 : decode cX12_says 8 = .ok (.iload_n 1, 1) := by decide +kernel
theorem dX12_says_9 : decode cX12_says 9 = .ok (.i2b, 1) := by decide +kernel
theorem dX12_says_10 : decode cX12_says 10 = .ok (.bastore, 1) := by decide +kernel
theorem dX12_says_11 : decode cX12_says 11 = .ok (.aload_n 0, 1) := by decide +kernel
theorem dX12_says_12 : decode cX12_says 12 = .ok (.dup, 1) := by decide +kernel
theorem dX12_says_13 : decode cX12_says 13 = .ok (.getfield 507, 3) := by decide +kernel
theorem dX12_says_16 : decode cX12_says 16 = .ok (.iconst 1, 1) := by decide +kernel
theorem dX12_says_17 : decode cX12_says 17 = .ok (.iadd, 1) := by decide +kernel
theorem dX12_says_18 : decode cX12_says 18 = .ok (.putfield 507, 3) := by decide +kernel
theorem dX12_says_21 : decode cX12_says 21 = .ok (.return_, 1) := by decide +kernel
abbrev rmX12_says : Room := { frames := 0, cells := 0, slots := 0, locals := 0 }
noncomputable def fX12_says (σ : St) (x0 : Nat) (x1 : Int32) : Option (St) :=
(gR σ x0 11 40).bind fun v1 =>
(gI σ x0 11 41).bind fun v5 =>
(sB σ v1 v5 x1.toInt8.toInt32).bind fun σ10 =>
(gI σ10 x0 11 41).bind fun v13 =>
(wrF σ10 x0 11 41 (.int (v13 + 1))).bind fun σ18 =>
some σ18
set_option maxHeartbeats 4000000 in
set_option maxRecDepth 100000 in
theorem cX12_saysc {l : Launch} {G : xG} {A : Nat → Prop} {σ : St} {x0 : Nat} {x1 : Int32} {c : St} (hf : fX12_says σ x0 x1 = some c) : Con l yX12_says (xws yX12_says cX12_says 2 none) rmX12_says [.ref (x0), .int (x1)] G A σ none c := by
  refine x_start rfl (Nat.le_of_ble_eq_true rfl) (fun X _ _ _ C hE0 => ?_)
  have hE : ∀ r, c = r → xE1 X none r := fun r e => e ▸ hE0
  show V X (0, 0) σ 0 [(0, .ref (x0)), (1, .int (x1))] []
  unfold fX12_says at hf
  refine x_aload_n C dX12_says_0 1 rfl 0 rfl rfl ?_
  obtain ⟨v1, hv1, hf⟩ := x_bind hf
  refine x_getR C dX12_says_1 4 rfl hv1 cl11 rfl w1483 ?_
  refine x_aload_n C dX12_says_4 5 rfl 0 rfl rfl ?_
  obtain ⟨v5, hv5, hf⟩ := x_bind hf
  refine x_getI C dX12_says_5 8 rfl hv5 cl11 rfl w1484 ?_
  refine x_iload_n C dX12_says_8 9 rfl 1 rfl rfl ?_
  refine x_i2b C dX12_says_9 10 rfl ?_
  obtain ⟨σ10, hσ10, hf⟩ := x_bind hf
  refine x_bastore C dX12_says_10 11 rfl hσ10 ?_
  refine x_aload_n C dX12_says_11 12 rfl 0 rfl rfl ?_
  refine x_dup C dX12_says_12 13 rfl rfl ?_
  obtain ⟨v13, hv13, hf⟩ := x_bind hf
  refine x_getI C dX12_says_13 16 rfl hv13 cl11 rfl w1484 ?_
  refine x_iconst C dX12_says_16 17 rfl 1 (by decide) ?_
  refine x_iadd C dX12_says_17 18 rfl ?_
  obtain ⟨σ18, hσ18, hf⟩ := x_bind hf
  refine x_putX C dX12_says_18 21 rfl hσ18 cl11 rfl w1484 rfl rfl rfl ?_
  exact x_vret C (hE _ (Option.some.inj hf).symm) dX12_says_21
theorem dX12_saysWord_0 : decode cX12_saysWord 0 = .ok (.iconst 0, 1) := by decide +kernel
theorem dX12_saysWord_1 : decode cX12_saysWord 1 = .ok (.istore_n 3, 1) := by decide +kernel
theorem dX12_saysWord_2 : decode cX12_saysWord 2 = .ok (.iload_n 3, 1) := by decide +kernel
theorem dX12_saysWord_3 : decode cX12_saysWord 3 = .ok (.lload_n 1, 1) := by decide +kernel
theorem dX12_saysWord_4 : decode cX12_saysWord 4 = .ok (.invokestatic 136, 3) := by decide +kernel
theorem dX12_saysWord_7 : decode cX12_saysWord 7 = .ok (.if_icmp .ge 21, 3) := by decide +kernel
theorem dX12_saysWord_10 : decode cX12_saysWord 10 = .ok (.aload_n 0, 1) := by decide +kernel
theorem dX12_saysWord_11 : decode cX12_saysWord 11 = .ok (.bipush 97, 2) := by decide +kernel
theorem dX12_saysWord_13 : decode cX12_saysWord 13 = .ok (.lload_n 1, 1) := by decide +kernel
theorem dX12_saysWord_14 : decode cX12_saysWord 14 = .ok (.iload_n 3, 1) := by decide +kernel
theorem dX12_saysWord_15 : decode cX12_saysWord 15 = .ok (.invokestatic 160, 3) := by decide +kernel
theorem dX12_saysWord_18 : decode cX12_saysWord 18 = .ok (.iadd, 1) := by decide +kernel
theorem dX12_saysWord_19 : decode cX12_saysWord 19 = .ok (.invokevirtual 510, 3) := by decide +kernel
theorem dX12_saysWord_22 : decode cX12_saysWord 22 = .ok (.iinc 3 1, 3) := by decide +kernel
theorem dX12_saysWord_25 : decode cX12_saysWord 25 = .ok (.goto (-23), 3) := by decide +kernel
theorem dX12_saysWord_28 : decode cX12_saysWord 28 = .ok (.return_, 1) := by decide +kernel
abbrev rmX12_saysWord : Room := { frames := 3, cells := 0, slots := 0, locals := 69 }
noncomputable def fLX12_saysWord_2 (x0 : Nat) (x1 : Int64) (a : Int32 × St) : Option ((Int32 × St) ⊕ (St)) :=
(fX12_length x1).bind fun w4 =>
if w4 ≤ a.1 then
(some (Sum.inr a.2))
else
((fX12_letterAt x1 a.1).bind fun w15 =>
(isO a.2 x0 11).bind fun _ =>
(fX12_says a.2 x0 (97 + w15)).bind fun w19 =>
xlet (a.1 + 1) fun v22 =>
some (Sum.inl (v22, w19)))
set_option maxHeartbeats 4000000 in
set_option maxRecDepth 100000 in
theorem lpX12_saysWord_2 {X : xX} {x0 : Nat} {x1 : Int64}  {a0 : Int32 × St} {b : St} (C : Ok X cX12_saysWord 4 RX12 rmX12_saysWord none) (hb : iterP (fLX12_saysWord_2 x0 x1) a0 = some b) (hy0 : ∀ s, b = s → V X (0, 0) s 28 [] []) : V X (0, 0) a0.2 2 [(0, .ref (x0)), (1, .long (x1)), (3, .int (a0.1))] [] := by
  obtain ⟨n, hn⟩ := iterP_some hb
  refine x_loop (P := fun a => V X (0, 0) a.2 2 [(0, .ref (x0)), (1, .long (x1)), (3, .int (a.1))] []) ?_ n a0 hn
  intro a c hf hK hxx
  have hx0 : ∀ s, c = Sum.inr s → V X (0, 0) s 28 [] [] := fun s e => hy0 s (hxx _ e).symm
  unfold fLX12_saysWord_2 at hf
  refine x_iload_n C dX12_saysWord_2 3 rfl 2 rfl rfl ?_
  refine x_lload_n C dX12_saysWord_3 4 rfl 1 rfl rfl ?_
  obtain ⟨w4, hw4, hf⟩ := x_bind hf
  refine x_callSi C dX12_saysWord_4 7 rfl (cX12_lengthc hw4) kX12_length ksX12_length w1728 ⟨rfl, rfl⟩ ⟨Nat.le_of_ble_eq_true rfl, Nat.le_of_ble_eq_true rfl⟩ ⟨Nat.zero_le _, Nat.zero_le _⟩ rfl rfl (Nat.le_of_ble_eq_true rfl) ?_
  refine x_icmp_ge C dX12_saysWord_7 28 (by decide) 10 rfl (fun hc => ?_) (fun hc => ?_)
  · have hf := (if_pos hc).symm.trans hf
    refine x_lv [] (lv' := []) rfl ?_
    exact hx0 _ (Option.some.inj hf).symm
  · have hf := (if_neg hc).symm.trans hf
    refine x_aload_n C dX12_saysWord_10 11 rfl 0 rfl rfl ?_
    refine x_bipush C dX12_saysWord_11 13 rfl 97 (by decide) ?_
    refine x_lload_n C dX12_saysWord_13 14 rfl 1 rfl rfl ?_
    refine x_iload_n C dX12_saysWord_14 15 rfl 2 rfl rfl ?_
    obtain ⟨w15, hw15, hf⟩ := x_bind hf
    refine x_callSi C dX12_saysWord_15 18 rfl (cX12_letterAtc hw15) kX12_letterAt ksX12_letterAt w1722 ⟨rfl, rfl⟩ ⟨Nat.le_of_ble_eq_true rfl, Nat.le_of_ble_eq_true rfl⟩ ⟨Nat.zero_le _, Nat.zero_le _⟩ rfl rfl (Nat.le_of_ble_eq_true rfl) ?_
    refine x_iadd C dX12_saysWord_18 19 rfl ?_
    obtain ⟨o19, ho19, hf⟩ := x_bind hf
    obtain ⟨w19, hw19, hf⟩ := x_bind hf
    refine x_callVv C dX12_saysWord_19 22 rfl ho19 cl11.1 rfl (cX12_saysc hw19) kX12_says kvX12_says w2097 ⟨rfl, rfl⟩ ⟨Nat.le_of_ble_eq_true rfl, Nat.le_of_ble_eq_true rfl⟩ ⟨Nat.zero_le _, Nat.zero_le _⟩ rfl rfl (Nat.le_of_ble_eq_true rfl) ?_
    obtain ⟨v22, ev22, hf⟩ := xlet_some hf
    refine x_iinc C dX12_saysWord_22 25 rfl 2 rfl v22 ev22 rfl [(3, .int (v22)), (0, .ref (x0)), (1, .long (x1))] rfl ?_
    refine x_goto C dX12_saysWord_25 2 (by decide) ?_
    refine x_lv [1, 2, 0] (lv' := [(0, .ref (x0)), (1, .long (x1)), (3, .int (v22))]) rfl ?_
    exact hK _ (Option.some.inj hf).symm
noncomputable def fX12_saysWord (σ : St) (x0 : Nat) (x1 : Int64) : Option (St) :=
(iterP (fLX12_saysWord_2 x0 x1) (0, σ)).bind fun b2 =>
some b2
set_option maxHeartbeats 4000000 in
set_option maxRecDepth 100000 in
theorem cX12_saysWordc {l : Launch} {G : xG} {A : Nat → Prop} {σ : St} {x0 : Nat} {x1 : Int64} {c : St} (hf : fX12_saysWord σ x0 x1 = some c) : Con l yX12_saysWord (xws yX12_saysWord cX12_saysWord 4 none) rmX12_saysWord [.ref (x0), .long (x1)] G A σ none c := by
  refine x_start rfl (Nat.le_of_ble_eq_true rfl) (fun X _ _ _ C hE0 => ?_)
  have hE : ∀ r, c = r → xE1 X none r := fun r e => e ▸ hE0
  show V X (0, 0) σ 0 [(0, .ref (x0)), (1, .long (x1))] []
  unfold fX12_saysWord at hf
  refine x_iconst C dX12_saysWord_0 1 rfl 0 (by decide) ?_
  refine x_istore_n C dX12_saysWord_1 2 rfl rfl rfl [(3, .int (0)), (0, .ref (x0)), (1, .long (x1))] rfl ?_
  obtain ⟨b2, hb2, hf⟩ := x_bind hf
  refine x_lv [1, 2, 0] (lv' := [(0, .ref (x0)), (1, .long (x1)), (3, .int (0))]) rfl ?_
  refine lpX12_saysWord_2 C hb2 (fun s2 e2 => ?_)
  subst e2
  exact x_vret C (hE _ (Option.some.inj hf).symm) dX12_saysWord_28
theorem dX12_say_0 : decode cX12_say 0 = .ok (.aload_n 0, 1) := by decide +kernel
theorem dX12_say_1 : decode cX12_say 1 = .ok (.iconst 0, 1) := by decide +kernel
theorem dX12_say_2 : decode cX12_say 2 = .ok (.putfield 1, 3) := by decide +kernel
theorem dX12_say_5 : decode cX12_say 5 = .ok (.aload_n 0, 1) := by decide +kernel
theorem dX12_say_6 : decode cX12_say 6 = .ok (.iconst 0, 1) := by decide +kernel
theorem dX12_say_7 : decode cX12_say 7 = .ok (.putfield 507, 3) := by decide +kernel
theorem dX12_say_10 : decode cX12_say 10 = .ok (.iconst 0, 1) := by decide +kernel
theorem dX12_say_11 : decode cX12_say 11 = .ok (.istore_n 1, 1) := by decide +kernel
theorem dX12_say_12 : decode cX12_say 12 = .ok (.iload_n 1, 1) := by decide +kernel
theorem dX12_say_13 : decode cX12_say 13 = .ok (.aload_n 0, 1) := by decide +kernel
theorem dX12_say_14 : decode cX12_say 14 = .ok (.invokevirtual 273, 3) := by decide +kernel
theorem dX12_say_17 : decode cX12_say 17 = .ok (.if_icmp .ge 43, 3) := by decide +kernel
theorem dX12_say_20 : decode cX12_say 20 = .ok (.iload_n 1, 1) := by decide +kernel
theorem dX12_say_21 : decode cX12_say 21 = .ok (.ifCond .le 9, 3) := by decide +kernel
theorem dX12_say_24 : decode cX12_say 24 = .ok (.aload_n 0, 1) := by decide +kernel
theorem dX12_say_25 : decode cX12_say 25 = .ok (.bipush 44, 2) := by decide +kernel
theorem dX12_say_27 : decode cX12_say 27 = .ok (.invokevirtual 510, 3) := by decide +kernel
theorem dX12_say_30 : decode cX12_say 30 = .ok (.aload_n 0, 1) := by decide +kernel
theorem dX12_say_31 : decode cX12_say 31 = .ok (.aload_n 0, 1) := by decide +kernel
theorem dX12_say_32 : decode cX12_say 32 = .ok (.iload_n 1, 1) := by decide +kernel
theorem dX12_say_33 : decode cX12_say 33 = .ok (.invokevirtual 285, 3) := by decide +kernel
theorem dX12_say_36 : decode cX12_say 36 = .ok (.invokevirtual 513, 3) := by decide +kernel
theorem dX12_say_39 : decode cX12_say 39 = .ok (.aload_n 0, 1) := by decide +kernel
theorem dX12_say_40 : decode cX12_say 40 = .ok (.bipush 62, 2) := by decide +kernel
theorem dX12_say_42 : decode cX12_say 42 = .ok (.invokevirtual 510, 3) := by decide +kernel
theorem dX12_say_45 : decode cX12_say 45 = .ok (.aload_n 0, 1) := by decide +kernel
theorem dX12_say_46 : decode cX12_say 46 = .ok (.aload_n 0, 1) := by decide +kernel
theorem dX12_say_47 : decode cX12_say 47 = .ok (.iload_n 1, 1) := by decide +kernel
theorem dX12_say_48 : decode cX12_say 48 = .ok (.invokevirtual 288, 3) := by decide +kernel
theorem dX12_say_51 : decode cX12_say 51 = .ok (.invokevirtual 513, 3) := by decide +kernel
theorem dX12_say_54 : decode cX12_say 54 = .ok (.iinc 1 1, 3) := by decide +kernel
theorem dX12_say_57 : decode cX12_say 57 = .ok (.goto (-45), 3) := by decide +kernel
theorem dX12_say_60 : decode cX12_say 60 = .ok (.aload_n 0, 1) := by decide +kernel
theorem dX12_say_61 : decode cX12_say 61 = .ok (.bipush 47, 2) := by decide +kernel
theorem dX12_say_63 : decode cX12_say 63 = .ok (.invokevirtual 510, 3) := by decide +kernel
theorem dX12_say_66 : decode cX12_say 66 = .ok (.iconst 0, 1) := by decide +kernel
theorem dX12_say_67 : decode cX12_say 67 = .ok (.istore_n 1, 1) := by decide +kernel
theorem dX12_say_68 : decode cX12_say 68 = .ok (.iload_n 1, 1) := by decide +kernel
theorem dX12_say_69 : decode cX12_say 69 = .ok (.aload_n 0, 1) := by decide +kernel
theorem dX12_say_70 : decode cX12_say 70 = .ok (.invokevirtual 409, 3) := by decide +kernel
theorem dX12_say_73 : decode cX12_say 73 = .ok (.if_icmp .ge 51, 3) := by decide +kernel
theorem dX12_say_76 : decode cX12_say 76 = .ok (.aload_n 0, 1) := by decide +kernel
theorem dX12_say_77 : decode cX12_say 77 = .ok (.bipush 97, 2) := by decide +kernel
theorem dX12_say_79 : decode cX12_say 79 = .ok (.aload_n 0, 1) := by decide +kernel
theorem dX12_say_80 : decode cX12_say 80 = .ok (.getfield 13, 3) := by decide +kernel
theorem dX12_say_83 : decode cX12_say 83 = .ok (.bipush 7, 2) := by decide +kernel
theorem dX12_say_85 : decode cX12_say 85 = .ok (.iload_n 1, 1) := by decide +kernel
theorem dX12_say_86 : decode cX12_say 86 = .ok (.iadd, 1) := by decide +kernel
theorem dX12_say_87 : decode cX12_say 87 = .ok (.laload, 1) := by decide +kernel
theorem dX12_say_88 : decode cX12_say 88 = .ok (.l2i, 1) := by decide +kernel
theorem dX12_say_89 : decode cX12_say 89 = .ok (.iadd, 1) := by decide +kernel
theorem dX12_say_90 : decode cX12_say 90 = .ok (.invokevirtual 510, 3) := by decide +kernel
theorem dX12_say_93 : decode cX12_say 93 = .ok (.aload_n 0, 1) := by decide +kernel
theorem dX12_say_94 : decode cX12_say 94 = .ok (.bipush 48, 2) := by decide +kernel
theorem dX12_say_96 : decode cX12_say 96 = .ok (.aload_n 0, 1) := by decide +kernel
theorem dX12_say_97 : decode cX12_say 97 = .ok (.getfield 13, 3) := by decide +kernel
theorem dX12_say_100 : decode cX12_say 100 = .ok (.iconst 2, 1) := by decide +kernel
theorem dX12_say_101 : decode cX12_say 101 = .ok (.aload_n 0, 1) := by decide +kernel
theorem dX12_say_102 : decode cX12_say 102 = .ok (.getfield 13, 3) := by decide +kernel
theorem dX12_say_105 : decode cX12_say 105 = .ok (.bipush 7, 2) := by decide +kernel
theorem dX12_say_107 : decode cX12_say 107 = .ok (.iload_n 1, 1) := by decide +kernel
theorem dX12_say_108 : decode cX12_say 108 = .ok (.iadd, 1) := by decide +kernel
theorem dX12_say_109 : decode cX12_say 109 = .ok (.laload, 1) := by decide +kernel
theorem dX12_say_110 : decode cX12_say 110 = .ok (.l2i, 1) := by decide +kernel
theorem dX12_say_111 : decode cX12_say 111 = .ok (.iadd, 1) := by decide +kernel
theorem dX12_say_112 : decode cX12_say 112 = .ok (.laload, 1) := by decide +kernel
theorem dX12_say_113 : decode cX12_say 113 = .ok (.l2i, 1) := by decide +kernel
theorem dX12_say_114 : decode cX12_say 114 = .ok (.iadd, 1) := by decide +kernel
theorem dX12_say_115 : decode cX12_say 115 = .ok (.invokevirtual 510, 3) := by decide +kernel
theorem dX12_say_118 : decode cX12_say 118 = .ok (.iinc 1 1, 3) := by decide +kernel
theorem dX12_say_121 : decode cX12_say 121 = .ok (.goto (-53), 3) := by decide +kernel
theorem dX12_say_124 : decode cX12_say 124 = .ok (.aload_n 0, 1) := by decide +kernel
theorem dX12_say_125 : decode cX12_say 125 = .ok (.getfield 507, 3) := by decide +kernel
theorem dX12_say_128 : decode cX12_say 128 = .ok (.ireturn, 1) := by decide +kernel
abbrev rmX12_say : Room := { frames := 4, cells := 0, slots := 0, locals := 92 }
noncomputable def fJX12_say_12_30 (σ : St) (x0 : Nat) (x1 : Int32)  : Option ((Int32 × St) ⊕ (St)) :=
(isO σ x0 11).bind fun _ =>
(fX12_leftOf σ x0 x1).bind fun w33 =>
(isO σ x0 11).bind fun _ =>
(fX12_saysWord σ x0 w33).bind fun w36 =>
(isO w36 x0 11).bind fun _ =>
(fX12_says w36 x0 62).bind fun w42 =>
(isO w42 x0 11).bind fun _ =>
(fX12_rightOf w42 x0 x1).bind fun w48 =>
(isO w42 x0 11).bind fun _ =>
(fX12_saysWord w42 x0 w48).bind fun w51 =>
xlet (x1 + 1) fun v54 =>
some (Sum.inl (v54, w51))
set_option maxHeartbeats 4000000 in
set_option maxRecDepth 100000 in
theorem jnX12_say_12_30 {X : xX} {σ : St} {x0 : Nat} {x1 : Int32}   {c : (Int32 × St) ⊕ (St)} (C : Ok X cX12_say 2 RX12 rmX12_say (some .int)) (hf : fJX12_say_12_30 σ x0 x1  = some c) (hK : ∀ a', c = Sum.inl a' → V X (0, 0) a'.2 12 [(0, .ref (x0)), (1, .int (a'.1))] []) (hx0 : ∀ s, c = Sum.inr s → V X (0, 0) s 60 [(0, .ref (x0))] []) : V X (0, 0) σ 30 [(0, .ref (x0)), (1, .int (x1))] [] := by
  unfold fJX12_say_12_30 at hf
  refine x_aload_n C dX12_say_30 31 rfl 0 rfl rfl ?_
  refine x_aload_n C dX12_say_31 32 rfl 0 rfl rfl ?_
  refine x_iload_n C dX12_say_32 33 rfl 1 rfl rfl ?_
  obtain ⟨o33, ho33, hf⟩ := x_bind hf
  obtain ⟨w33, hw33, hf⟩ := x_bind hf
  refine x_callVl C dX12_say_33 36 rfl ho33 cl11.1 rfl (cX12_leftOfc hw33) kX12_leftOf kvX12_leftOf w1752 ⟨rfl, rfl⟩ ⟨Nat.le_of_ble_eq_true rfl, Nat.le_of_ble_eq_true rfl⟩ ⟨Nat.zero_le _, Nat.zero_le _⟩ rfl rfl (Nat.le_of_ble_eq_true rfl) ?_
  obtain ⟨o36, ho36, hf⟩ := x_bind hf
  obtain ⟨w36, hw36, hf⟩ := x_bind hf
  refine x_callVv C dX12_say_36 39 rfl ho36 cl11.1 rfl (cX12_saysWordc hw36) kX12_saysWord kvX12_saysWord w2101 ⟨rfl, rfl⟩ ⟨Nat.le_of_ble_eq_true rfl, Nat.le_of_ble_eq_true rfl⟩ ⟨Nat.zero_le _, Nat.zero_le _⟩ rfl rfl (Nat.le_of_ble_eq_true rfl) ?_
  refine x_aload_n C dX12_say_39 40 rfl 0 rfl rfl ?_
  refine x_bipush C dX12_say_40 42 rfl 62 (by decide) ?_
  obtain ⟨o42, ho42, hf⟩ := x_bind hf
  obtain ⟨w42, hw42, hf⟩ := x_bind hf
  refine x_callVv C dX12_say_42 45 rfl ho42 cl11.1 rfl (cX12_saysc hw42) kX12_says kvX12_says w2097 ⟨rfl, rfl⟩ ⟨Nat.le_of_ble_eq_true rfl, Nat.le_of_ble_eq_true rfl⟩ ⟨Nat.zero_le _, Nat.zero_le _⟩ rfl rfl (Nat.le_of_ble_eq_true rfl) ?_
  refine x_aload_n C dX12_say_45 46 rfl 0 rfl rfl ?_
  refine x_aload_n C dX12_say_46 47 rfl 0 rfl rfl ?_
  refine x_iload_n C dX12_say_47 48 rfl 1 rfl rfl ?_
  obtain ⟨o48, ho48, hf⟩ := x_bind hf
  obtain ⟨w48, hw48, hf⟩ := x_bind hf
  refine x_callVl C dX12_say_48 51 rfl ho48 cl11.1 rfl (cX12_rightOfc hw48) kX12_rightOf kvX12_rightOf w1756 ⟨rfl, rfl⟩ ⟨Nat.le_of_ble_eq_true rfl, Nat.le_of_ble_eq_true rfl⟩ ⟨Nat.zero_le _, Nat.zero_le _⟩ rfl rfl (Nat.le_of_ble_eq_true rfl) ?_
  obtain ⟨o51, ho51, hf⟩ := x_bind hf
  obtain ⟨w51, hw51, hf⟩ := x_bind hf
  refine x_callVv C dX12_say_51 54 rfl ho51 cl11.1 rfl (cX12_saysWordc hw51) kX12_saysWord kvX12_saysWord w2101 ⟨rfl, rfl⟩ ⟨Nat.le_of_ble_eq_true rfl, Nat.le_of_ble_eq_true rfl⟩ ⟨Nat.zero_le _, Nat.zero_le _⟩ rfl rfl (Nat.le_of_ble_eq_true rfl) ?_
  obtain ⟨v54, ev54, hf⟩ := xlet_some hf
  refine x_iinc C dX12_say_54 57 rfl 1 rfl v54 ev54 rfl [(1, .int (v54)), (0, .ref (x0))] rfl ?_
  refine x_goto C dX12_say_57 12 (by decide) ?_
  refine x_lv [1, 0] (lv' := [(0, .ref (x0)), (1, .int (v54))]) rfl ?_
  exact hK _ (Option.some.inj hf).symm
noncomputable def fLX12_say_12 (x0 : Nat) (a : Int32 × St) : Option ((Int32 × St) ⊕ (St)) :=
(isO a.2 x0 11).bind fun _ =>
(fX12_rules a.2 x0).bind fun w14 =>
if w14 ≤ a.1 then
(some (Sum.inr a.2))
else
(if a.1 ≤ 0 then
(fJX12_say_12_30 a.2 x0 a.1)
else
((isO a.2 x0 11).bind fun _ =>
(fX12_says a.2 x0 44).bind fun w27 =>
fJX12_say_12_30 w27 x0 a.1))
set_option maxHeartbeats 4000000 in
set_option maxRecDepth 100000 in
theorem lpX12_say_12 {X : xX} {x0 : Nat}  {a0 : Int32 × St} {b : St} (C : Ok X cX12_say 2 RX12 rmX12_say (some .int)) (hb : iterP (fLX12_say_12 x0) a0 = some b) (hy0 : ∀ s, b = s → V X (0, 0) s 60 [(0, .ref (x0))] []) : V X (0, 0) a0.2 12 [(0, .ref (x0)), (1, .int (a0.1))] [] := by
  obtain ⟨n, hn⟩ := iterP_some hb
  refine x_loop (P := fun a => V X (0, 0) a.2 12 [(0, .ref (x0)), (1, .int (a.1))] []) ?_ n a0 hn
  intro a c hf hK hxx
  have hx0 : ∀ s, c = Sum.inr s → V X (0, 0) s 60 [(0, .ref (x0))] [] := fun s e => hy0 s (hxx _ e).symm
  unfold fLX12_say_12 at hf
  refine x_iload_n C dX12_say_12 13 rfl 1 rfl rfl ?_
  refine x_aload_n C dX12_say_13 14 rfl 0 rfl rfl ?_
  obtain ⟨o14, ho14, hf⟩ := x_bind hf
  obtain ⟨w14, hw14, hf⟩ := x_bind hf
  refine x_callVi C dX12_say_14 17 rfl ho14 cl11.1 rfl (cX12_rulesc hw14) kX12_rules kvX12_rules w1735 ⟨rfl, rfl⟩ ⟨Nat.le_of_ble_eq_true rfl, Nat.le_of_ble_eq_true rfl⟩ ⟨Nat.zero_le _, Nat.zero_le _⟩ rfl rfl (Nat.le_of_ble_eq_true rfl) ?_
  refine x_icmp_ge C dX12_say_17 60 (by decide) 20 rfl (fun hc => ?_) (fun hc => ?_)
  · have hf := (if_pos hc).symm.trans hf
    refine x_lv [0] (lv' := [(0, .ref (x0))]) rfl ?_
    exact hx0 _ (Option.some.inj hf).symm
  · have hf := (if_neg hc).symm.trans hf
    refine x_iload_n C dX12_say_20 21 rfl 1 rfl rfl ?_
    refine x_if_le C dX12_say_21 30 (by decide) 24 rfl (fun hc => ?_) (fun hc => ?_)
    · have hf := (if_pos hc).symm.trans hf
      exact jnX12_say_12_30 C hf hK hx0
    · have hf := (if_neg hc).symm.trans hf
      refine x_aload_n C dX12_say_24 25 rfl 0 rfl rfl ?_
      refine x_bipush C dX12_say_25 27 rfl 44 (by decide) ?_
      obtain ⟨o27, ho27, hf⟩ := x_bind hf
      obtain ⟨w27, hw27, hf⟩ := x_bind hf
      refine x_callVv C dX12_say_27 30 rfl ho27 cl11.1 rfl (cX12_saysc hw27) kX12_says kvX12_says w2097 ⟨rfl, rfl⟩ ⟨Nat.le_of_ble_eq_true rfl, Nat.le_of_ble_eq_true rfl⟩ ⟨Nat.zero_le _, Nat.zero_le _⟩ rfl rfl (Nat.le_of_ble_eq_true rfl) ?_
      exact jnX12_say_12_30 C hf hK hx0
noncomputable def fLX12_say_68 (x0 : Nat) (a : Int32 × St) : Option ((Int32 × St) ⊕ (St)) :=
(isO a.2 x0 11).bind fun _ =>
(fX12_letters a.2 x0).bind fun w70 =>
if w70 ≤ a.1 then
(some (Sum.inr a.2))
else
((gR a.2 x0 11 1).bind fun v80 =>
(aL a.2 v80 (7 + a.1)).bind fun v87 =>
(isO a.2 x0 11).bind fun _ =>
(fX12_says a.2 x0 (97 + v87.toInt32)).bind fun w90 =>
(gR w90 x0 11 1).bind fun v97 =>
(gR w90 x0 11 1).bind fun v102 =>
(aL w90 v102 (7 + a.1)).bind fun v109 =>
(aL w90 v97 (2 + v109.toInt32)).bind fun v112 =>
(isO w90 x0 11).bind fun _ =>
(fX12_says w90 x0 (48 + v112.toInt32)).bind fun w115 =>
xlet (a.1 + 1) fun v118 =>
some (Sum.inl (v118, w115)))
set_option maxHeartbeats 4000000 in
set_option maxRecDepth 100000 in
theorem lpX12_say_68 {X : xX} {x0 : Nat}  {a0 : Int32 × St} {b : St} (C : Ok X cX12_say 2 RX12 rmX12_say (some .int)) (hb : iterP (fLX12_say_68 x0) a0 = some b) (hy0 : ∀ s, b = s → V X (0, 0) s 124 [(0, .ref (x0))] []) : V X (0, 0) a0.2 68 [(0, .ref (x0)), (1, .int (a0.1))] [] := by
  obtain ⟨n, hn⟩ := iterP_some hb
  refine x_loop (P := fun a => V X (0, 0) a.2 68 [(0, .ref (x0)), (1, .int (a.1))] []) ?_ n a0 hn
  intro a c hf hK hxx
  have hx0 : ∀ s, c = Sum.inr s → V X (0, 0) s 124 [(0, .ref (x0))] [] := fun s e => hy0 s (hxx _ e).symm
  unfold fLX12_say_68 at hf
  refine x_iload_n C dX12_say_68 69 rfl 1 rfl rfl ?_
  refine x_aload_n C dX12_say_69 70 rfl 0 rfl rfl ?_
  obtain ⟨o70, ho70, hf⟩ := x_bind hf
  obtain ⟨w70, hw70, hf⟩ := x_bind hf
  refine x_callVi C dX12_say_70 73 rfl ho70 cl11.1 rfl (cX12_lettersc hw70) kX12_letters kvX12_letters w1860 ⟨rfl, rfl⟩ ⟨Nat.le_of_ble_eq_true rfl, Nat.le_of_ble_eq_true rfl⟩ ⟨Nat.zero_le _, Nat.zero_le _⟩ rfl rfl (Nat.le_of_ble_eq_true rfl) ?_
  refine x_icmp_ge C dX12_say_73 124 (by decide) 76 rfl (fun hc => ?_) (fun hc => ?_)
  · have hf := (if_pos hc).symm.trans hf
    refine x_lv [0] (lv' := [(0, .ref (x0))]) rfl ?_
    exact hx0 _ (Option.some.inj hf).symm
  · have hf := (if_neg hc).symm.trans hf
    refine x_aload_n C dX12_say_76 77 rfl 0 rfl rfl ?_
    refine x_bipush C dX12_say_77 79 rfl 97 (by decide) ?_
    refine x_aload_n C dX12_say_79 80 rfl 0 rfl rfl ?_
    obtain ⟨v80, hv80, hf⟩ := x_bind hf
    refine x_getR C dX12_say_80 83 rfl hv80 cl11 rfl w1444 ?_
    refine x_bipush C dX12_say_83 85 rfl 7 (by decide) ?_
    refine x_iload_n C dX12_say_85 86 rfl 1 rfl rfl ?_
    refine x_iadd C dX12_say_86 87 rfl ?_
    obtain ⟨v87, hv87, hf⟩ := x_bind hf
    refine x_laload C dX12_say_87 88 rfl hv87 ?_
    refine x_l2i C dX12_say_88 89 rfl ?_
    refine x_iadd C dX12_say_89 90 rfl ?_
    obtain ⟨o90, ho90, hf⟩ := x_bind hf
    obtain ⟨w90, hw90, hf⟩ := x_bind hf
    refine x_callVv C dX12_say_90 93 rfl ho90 cl11.1 rfl (cX12_saysc hw90) kX12_says kvX12_says w2097 ⟨rfl, rfl⟩ ⟨Nat.le_of_ble_eq_true rfl, Nat.le_of_ble_eq_true rfl⟩ ⟨Nat.zero_le _, Nat.zero_le _⟩ rfl rfl (Nat.le_of_ble_eq_true rfl) ?_
    refine x_aload_n C dX12_say_93 94 rfl 0 rfl rfl ?_
    refine x_bipush C dX12_say_94 96 rfl 48 (by decide) ?_
    refine x_aload_n C dX12_say_96 97 rfl 0 rfl rfl ?_
    obtain ⟨v97, hv97, hf⟩ := x_bind hf
    refine x_getR C dX12_say_97 100 rfl hv97 cl11 rfl w1444 ?_
    refine x_iconst C dX12_say_100 101 rfl 2 (by decide) ?_
    refine x_aload_n C dX12_say_101 102 rfl 0 rfl rfl ?_
    obtain ⟨v102, hv102, hf⟩ := x_bind hf
    refine x_getR C dX12_say_102 105 rfl hv102 cl11 rfl w1444 ?_
    refine x_bipush C dX12_say_105 107 rfl 7 (by decide) ?_
    refine x_iload_n C dX12_say_107 108 rfl 1 rfl rfl ?_
    refine x_iadd C dX12_say_108 109 rfl ?_
    obtain ⟨v109, hv109, hf⟩ := x_bind hf
    refine x_laload C dX12_say_109 110 rfl hv109 ?_
    refine x_l2i C dX12_say_110 111 rfl ?_
    refine x_iadd C dX12_say_111 112 rfl ?_
    obtain ⟨v112, hv112, hf⟩ := x_bind hf
    refine x_laload C dX12_say_112 113 rfl hv112 ?_
    refine x_l2i C dX12_say_113 114 rfl ?_
    refine x_iadd C dX12_say_114 115 rfl ?_
    obtain ⟨o115, ho115, hf⟩ := x_bind hf
    obtain ⟨w115, hw115, hf⟩ := x_bind hf
    refine x_callVv C dX12_say_115 118 rfl ho115 cl11.1 rfl (cX12_saysc hw115) kX12_says kvX12_says w2097 ⟨rfl, rfl⟩ ⟨Nat.le_of_ble_eq_true rfl, Nat.le_of_ble_eq_true rfl⟩ ⟨Nat.zero_le _, Nat.zero_le _⟩ rfl rfl (Nat.le_of_ble_eq_true rfl) ?_
    obtain ⟨v118, ev118, hf⟩ := xlet_some hf
    refine x_iinc C dX12_say_118 121 rfl 1 rfl v118 ev118 rfl [(1, .int (v118)), (0, .ref (x0))] rfl ?_
    refine x_goto C dX12_say_121 68 (by decide) ?_
    refine x_lv [1, 0] (lv' := [(0, .ref (x0)), (1, .int (v118))]) rfl ?_
    exact hK _ (Option.some.inj hf).symm
noncomputable def fX12_say (σ : St) (x0 : Nat) : Option ((Int32 × St)) :=
(wrF σ x0 11 0 (.int (0))).bind fun σ2 =>
(wrF σ2 x0 11 41 (.int (0))).bind fun σ7 =>
(iterP (fLX12_say_12 x0) (0, σ7)).bind fun b12 =>
(isO b12 x0 11).bind fun _ =>
(fX12_says b12 x0 47).bind fun w63 =>
(iterP (fLX12_say_68 x0) (0, w63)).bind fun b68 =>
(gI b68 x0 11 41).bind fun v125 =>
some (v125, b68)
set_option maxHeartbeats 4000000 in
set_option maxRecDepth 100000 in
theorem cX12_sayc {l : Launch} {G : xG} {A : Nat → Prop} {σ : St} {x0 : Nat} {c : (Int32 × St)} (hf : fX12_say σ x0 = some c) : Con l yX12_say (xws yX12_say cX12_say 2 (some .int)) rmX12_say [.ref (x0)] G A σ (some (.int c.1)) c.2 := by
  refine x_start rfl (Nat.le_of_ble_eq_true rfl) (fun X _ _ _ C hE0 => ?_)
  have hE : ∀ r, c = r → xE1 X (some (.int r.1)) r.2 := fun r e => e ▸ hE0
  show V X (0, 0) σ 0 [(0, .ref (x0))] []
  unfold fX12_say at hf
  refine x_aload_n C dX12_say_0 1 rfl 0 rfl rfl ?_
  refine x_iconst C dX12_say_1 2 rfl 0 (by decide) ?_
  obtain ⟨σ2, hσ2, hf⟩ := x_bind hf
  refine x_putX C dX12_say_2 5 rfl hσ2 cl11 rfl w1443 rfl rfl rfl ?_
  refine x_aload_n C dX12_say_5 6 rfl 0 rfl rfl ?_
  refine x_iconst C dX12_say_6 7 rfl 0 (by decide) ?_
  obtain ⟨σ7, hσ7, hf⟩ := x_bind hf
  refine x_putX C dX12_say_7 10 rfl hσ7 cl11 rfl w1484 rfl rfl rfl ?_
  refine x_iconst C dX12_say_10 11 rfl 0 (by decide) ?_
  refine x_istore_n C dX12_say_11 12 rfl rfl rfl [(1, .int (0)), (0, .ref (x0))] rfl ?_
  obtain ⟨b12, hb12, hf⟩ := x_bind hf
  refine x_lv [1, 0] (lv' := [(0, .ref (x0)), (1, .int (0))]) rfl ?_
  refine lpX12_say_12 C hb12 (fun s12 e12 => ?_)
  subst e12
  refine x_aload_n C dX12_say_60 61 rfl 0 rfl rfl ?_
  refine x_bipush C dX12_say_61 63 rfl 47 (by decide) ?_
  obtain ⟨o63, ho63, hf⟩ := x_bind hf
  obtain ⟨w63, hw63, hf⟩ := x_bind hf
  refine x_callVv C dX12_say_63 66 rfl ho63 cl11.1 rfl (cX12_saysc hw63) kX12_says kvX12_says w2097 ⟨rfl, rfl⟩ ⟨Nat.le_of_ble_eq_true rfl, Nat.le_of_ble_eq_true rfl⟩ ⟨Nat.zero_le _, Nat.zero_le _⟩ rfl rfl (Nat.le_of_ble_eq_true rfl) ?_
  refine x_iconst C dX12_say_66 67 rfl 0 (by decide) ?_
  refine x_istore_n C dX12_say_67 68 rfl rfl rfl [(1, .int (0)), (0, .ref (x0))] rfl ?_
  obtain ⟨b68, hb68, hf⟩ := x_bind hf
  refine x_lv [1, 0] (lv' := [(0, .ref (x0)), (1, .int (0))]) rfl ?_
  refine lpX12_say_68 C hb68 (fun s68 e68 => ?_)
  subst e68
  refine x_aload_n C dX12_say_124 125 rfl 0 rfl rfl ?_
  obtain ⟨v125, hv125, hf⟩ := x_bind hf
  refine x_getI C dX12_say_125 128 rfl hv125 cl11 rfl w1484 ?_
  exact x_iret C (hE _ (Option.some.inj hf).symm) dX12_say_128
