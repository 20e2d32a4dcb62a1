/-! methods: X6_followBack X6_spread X7_hasEachOnce X7_isSign X7_kindAt X7_next X7_number X7_numberFault -/
theorem dX6_followBack_0 : decode cX6_followBack 0 = .ok (.aload_n 0, 1) := by decide +kernel
theorem dX6_followBack_1 : decode cX6_followBack 1 = .ok (.getfield 11, 3) := by decide +kernel
theorem dX6_followBack_4 : decode cX6_followBack 4 = .ok (.iload_n 1, 1) := by decide +kernel
theorem dX6_followBack_5 : decode cX6_followBack 5 = .ok (.laload, 1) := by decide +kernel
theorem dX6_followBack_6 : decode cX6_followBack 6 = .ok (.lstore_n 2, 1) := by decide +kernel
theorem dX6_followBack_7 : decode cX6_followBack 7 = .ok (.iconst 0, 1) := by decide +kernel
theorem dX6_followBack_8 : decode cX6_followBack 8 = .ok (.istore 4, 2) := by decide +kernel
theorem dX6_followBack_10 : decode cX6_followBack 10 = .ok (.iload 4, 2) := by decide +kernel
theorem dX6_followBack_12 : decode cX6_followBack 12 = .ok (.lload_n 2, 1) := by decide +kernel
theorem dX6_followBack_13 : decode cX6_followBack 13 = .ok (.invokestatic 67, 3) := by decide +kernel
theorem dX6_followBack_16 : decode cX6_followBack 16 = .ok (.if_icmp .gt 97, 3) := by decide +kernel
theorem dX6_followBack_19 : decode cX6_followBack 19 = .ok (.iconst 0, 1) := by decide +kernel
theorem dX6_followBack_20 : decode cX6_followBack 20 = .ok (.istore 5, 2) := by decide +kernel
theorem dX6_followBack_22 : decode cX6_followBack 22 = .ok (.iload 5, 2) := by decide +kernel
theorem dX6_followBack_24 : decode cX6_followBack 24 = .ok (.aload_n 0, 1) := by decide +kernel
theorem dX6_followBack_25 : decode cX6_followBack 25 = .ok (.getfield 38, 3) := by decide +kernel
theorem dX6_followBack_28 : decode cX6_followBack 28 = .ok (.getfield 73, 3) := by decide +kernel
theorem dX6_followBack_31 : decode cX6_followBack 31 = .ok (.if_icmp .ge 76, 3) := by decide +kernel
theorem dX6_followBack_34 : decode cX6_followBack 34 = .ok (.lload_n 2, 1) := by decide +kernel
theorem dX6_followBack_35 : decode cX6_followBack 35 = .ok (.iload 4, 2) := by decide +kernel
theorem dX6_followBack_37 : decode cX6_followBack 37 = .ok (.aload_n 0, 1) := by decide +kernel
theorem dX6_followBack_38 : decode cX6_followBack 38 = .ok (.getfield 38, 3) := by decide +kernel
theorem dX6_followBack_41 : decode cX6_followBack 41 = .ok (.getfield 77, 3) := by decide +kernel
theorem dX6_followBack_44 : decode cX6_followBack 44 = .ok (.iload 5, 2) := by decide +kernel
theorem dX6_followBack_46 : decode cX6_followBack 46 = .ok (.laload, 1) := by decide +kernel
theorem dX6_followBack_47 : decode cX6_followBack 47 = .ok (.aload_n 0, 1) := by decide +kernel
theorem dX6_followBack_48 : decode cX6_followBack 48 = .ok (.getfield 38, 3) := by decide +kernel
theorem dX6_followBack_51 : decode cX6_followBack 51 = .ok (.getfield 74, 3) := by decide +kernel
theorem dX6_followBack_54 : decode cX6_followBack 54 = .ok (.iload 5, 2) := by decide +kernel
theorem dX6_followBack_56 : decode cX6_followBack 56 = .ok (.laload, 1) := by decide +kernel
theorem dX6_followBack_57 : decode cX6_followBack 57 = .ok (.invokestatic 80, 3) := by decide +kernel
theorem dX6_followBack_60 : decode cX6_followBack 60 = .ok (.ifCond .eq 41, 3) := by decide +kernel
theorem dX6_followBack_63 : decode cX6_followBack 63 = .ok (.aload_n 0, 1) := by decide +kernel
theorem dX6_followBack_64 : decode cX6_followBack 64 = .ok (.lload_n 2, 1) := by decide +kernel
theorem dX6_followBack_65 : decode cX6_followBack 65 = .ok (.iload 4, 2) := by decide +kernel
theorem dX6_followBack_67 : decode cX6_followBack 67 = .ok (.aload_n 0, 1) := by decide +kernel
theorem dX6_followBack_68 : decode cX6_followBack 68 = .ok (.getfield 38, 3) := by decide +kernel
theorem dX6_followBack_71 : decode cX6_followBack 71 = .ok (.getfield 77, 3) := by decide +kernel
theorem dX6_followBack_74 : decode cX6_followBack 74 = .ok (.iload 5, 2) := by decide +kernel
theorem dX6_followBack_76 : decode cX6_followBack 76 = .ok (.laload, 1) := by decide +kernel
theorem dX6_followBack_77 : decode cX6_followBack 77 = .ok (.aload_n 0, 1) := by decide +kernel
theorem dX6_followBack_78 : decode cX6_followBack 78 = .ok (.getfield 38, 3) := by decide +kernel
theorem dX6_followBack_81 : decode cX6_followBack 81 = .ok (.getfield 74, 3) := by decide +kernel
theorem dX6_followBack_84 : decode cX6_followBack 84 = .ok (.iload 5, 2) := by decide +kernel
theorem dX6_followBack_86 : decode cX6_followBack 86 = .ok (.laload, 1) := by decide +kernel
theorem dX6_followBack_87 : decode cX6_followBack 87 = .ok (.invokestatic 84, 3) := by decide +kernel
theorem dX6_followBack_90 : decode cX6_followBack 90 = .ok (.aload_n 0, 1) := by decide +kernel
theorem dX6_followBack_91 : decode cX6_followBack 91 = .ok (.getfield 15, 3) := by decide +kernel
theorem dX6_followBack_94 : decode cX6_followBack 94 = .ok (.iload_n 1, 1) := by decide +kernel
theorem dX6_followBack_95 : decode cX6_followBack 95 = .ok (.iaload, 1) := by decide +kernel
theorem dX6_followBack_96 : decode cX6_followBack 96 = .ok (.iconst 1, 1) := by decide +kernel
theorem dX6_followBack_97 : decode cX6_followBack 97 = .ok (.iadd, 1) := by decide +kernel
theorem dX6_followBack_98 : decode cX6_followBack 98 = .ok (.invokevirtual 55, 3) := by decide +kernel
theorem dX6_followBack_101 : decode cX6_followBack 101 = .ok (.iinc 5 1, 3) := by decide +kernel
theorem dX6_followBack_104 : decode cX6_followBack 104 = .ok (.goto (-82), 3) := by decide +kernel
theorem dX6_followBack_107 : decode cX6_followBack 107 = .ok (.iinc 4 1, 3) := by decide +kernel
theorem dX6_followBack_110 : decode cX6_followBack 110 = .ok (.goto (-100), 3) := by decide +kernel
theorem dX6_followBack_113 : decode cX6_followBack 113 = .ok (.return_, 1) := by decide +kernel
abbrev rmX6_followBack : Room := { frames := 2, cells := 0, slots := 0, locals := 48 }
noncomputable def fLX6_followBack_22 (x0 : Nat) (x1 : Int32) (x2 : Int64) (x4 : Int32) (a : Int32 × St) : Option ((Int32 × St) ⊕ (St)) :=
(gR a.2 x0 6 0).bind fun v25 =>
(gI a.2 v25 8 1).bind fun v28 =>
if v28 ≤ a.1 then
(some (Sum.inr a.2))
else
((gR a.2 x0 6 0).bind fun v38 =>
(gR a.2 v38 8 3).bind fun v41 =>
(aL a.2 v41 a.1).bind fun v46 =>
(gR a.2 x0 6 0).bind fun v48 =>
(gR a.2 v48 8 2).bind fun v51 =>
(aL a.2 v51 a.1).bind fun v56 =>
(fX10_fits x2 x4 v46 v56).bind fun w57 =>
if w57 = 0 then
(xlet (a.1 + 1) fun v101 =>
some (Sum.inl (v101, a.2)))
else
((gR a.2 x0 6 0).bind fun v68 =>
(gR a.2 v68 8 3).bind fun v71 =>
(aL a.2 v71 a.1).bind fun v76 =>
(gR a.2 x0 6 0).bind fun v78 =>
(gR a.2 v78 8 2).bind fun v81 =>
(aL a.2 v81 a.1).bind fun v86 =>
(fX10_replaced x2 x4 v76 v86).bind fun w87 =>
(gR a.2 x0 6 3).bind fun v91 =>
(aI a.2 v91 0 x1).bind fun v95 =>
(isO a.2 x0 6).bind fun _ =>
(fX6_add a.2 x0 w87 (v95 + 1)).bind fun w98 =>
xlet (a.1 + 1) fun v101 =>
some (Sum.inl (v101, w98))))
set_option maxHeartbeats 4000000 in
set_option maxRecDepth 100000 in
theorem lpX6_followBack_22 {X : xX} {x0 : Nat} {x1 : Int32} {x2 : Int64} {x4 : Int32}  {a0 : Int32 × St} {b : St} (C : Ok X cX6_followBack 6 RX6 rmX6_followBack none) (hb : iterP (fLX6_followBack_22 x0 x1 x2 x4) a0 = some b) (hy0 : ∀ s, b = s → V X (0, 0) s 107 [(0, .ref (x0)), (1, .int (x1)), (2, .long (x2)), (4, .int (x4))] []) : V X (0, 0) a0.2 22 [(0, .ref (x0)), (1, .int (x1)), (2, .long (x2)), (4, .int (x4)), (5, .int (a0.1))] [] := by
  obtain ⟨n, hn⟩ := iterP_some hb
  refine x_loop (P := fun a => V X (0, 0) a.2 22 [(0, .ref (x0)), (1, .int (x1)), (2, .long (x2)), (4, .int (x4)), (5, .int (a.1))] []) ?_ n a0 hn
  intro a c hf hK hxx
  have hx0 : ∀ s, c = Sum.inr s → V X (0, 0) s 107 [(0, .ref (x0)), (1, .int (x1)), (2, .long (x2)), (4, .int (x4))] [] := fun s e => hy0 s (hxx _ e).symm
  unfold fLX6_followBack_22 at hf
  refine x_iload C dX6_followBack_22 24 rfl 4 rfl ?_
  refine x_aload_n C dX6_followBack_24 25 rfl 0 rfl rfl ?_
  obtain ⟨v25, hv25, hf⟩ := x_bind hf
  refine x_getR C dX6_followBack_25 28 rfl hv25 cl6 rfl w368 ?_
  obtain ⟨v28, hv28, hf⟩ := x_bind hf
  refine x_getI C dX6_followBack_28 31 rfl hv28 cl8 rfl w185 ?_
  refine x_icmp_ge C dX6_followBack_31 107 (by decide) 34 rfl (fun hc => ?_) (fun hc => ?_)
  · have hf := (if_pos hc).symm.trans hf
    refine x_lv [0, 1, 2, 3] (lv' := [(0, .ref (x0)), (1, .int (x1)), (2, .long (x2)), (4, .int (x4))]) rfl ?_
    exact hx0 _ (Option.some.inj hf).symm
  · have hf := (if_neg hc).symm.trans hf
    refine x_lload_n C dX6_followBack_34 35 rfl 2 rfl rfl ?_
    refine x_iload C dX6_followBack_35 37 rfl 3 rfl ?_
    refine x_aload_n C dX6_followBack_37 38 rfl 0 rfl rfl ?_
    obtain ⟨v38, hv38, hf⟩ := x_bind hf
    refine x_getR C dX6_followBack_38 41 rfl hv38 cl6 rfl w368 ?_
    obtain ⟨v41, hv41, hf⟩ := x_bind hf
    refine x_getR C dX6_followBack_41 44 rfl hv41 cl8 rfl w197 ?_
    refine x_iload C dX6_followBack_44 46 rfl 4 rfl ?_
    obtain ⟨v46, hv46, hf⟩ := x_bind hf
    refine x_laload C dX6_followBack_46 47 rfl hv46 ?_
    refine x_aload_n C dX6_followBack_47 48 rfl 0 rfl rfl ?_
    obtain ⟨v48, hv48, hf⟩ := x_bind hf
    refine x_getR C dX6_followBack_48 51 rfl hv48 cl6 rfl w368 ?_
    obtain ⟨v51, hv51, hf⟩ := x_bind hf
    refine x_getR C dX6_followBack_51 54 rfl hv51 cl8 rfl w192 ?_
    refine x_iload C dX6_followBack_54 56 rfl 4 rfl ?_
    obtain ⟨v56, hv56, hf⟩ := x_bind hf
    refine x_laload C dX6_followBack_56 57 rfl hv56 ?_
    obtain ⟨w57, hw57, hf⟩ := x_bind hf
    refine x_callSi C dX6_followBack_57 60 rfl (cX10_fitsc hw57) kX10_fits ksX10_fits w1132 ⟨rfl, rfl⟩ ⟨Nat.le_of_ble_eq_true rfl, Nat.le_of_ble_eq_true rfl⟩ ⟨Nat.zero_le _, Nat.zero_le _⟩ rfl rfl (Nat.le_of_ble_eq_true rfl) ?_
    refine x_if_eq C dX6_followBack_60 101 (by decide) 63 rfl (fun hc => ?_) (fun hc => ?_)
    · have hf := (if_pos hc).symm.trans hf
      obtain ⟨v101, ev101, hf⟩ := xlet_some hf
      refine x_iinc C dX6_followBack_101 104 rfl 4 rfl v101 ev101 rfl [(5, .int (v101)), (0, .ref (x0)), (1, .int (x1)), (2, .long (x2)), (4, .int (x4))] rfl ?_
      refine x_goto C dX6_followBack_104 22 (by decide) ?_
      refine x_lv [1, 2, 3, 4, 0] (lv' := [(0, .ref (x0)), (1, .int (x1)), (2, .long (x2)), (4, .int (x4)), (5, .int (v101))]) rfl ?_
      exact hK _ (Option.some.inj hf).symm
    · have hf := (if_neg hc).symm.trans hf
      refine x_aload_n C dX6_followBack_63 64 rfl 0 rfl rfl ?_
      refine x_lload_n C dX6_followBack_64 65 rfl 2 rfl rfl ?_
      refine x_iload C dX6_followBack_65 67 rfl 3 rfl ?_
      refine x_aload_n C dX6_followBack_67 68 rfl 0 rfl rfl ?_
      obtain ⟨v68, hv68, hf⟩ := x_bind hf
      refine x_getR C dX6_followBack_68 71 rfl hv68 cl6 rfl w368 ?_
      obtain ⟨v71, hv71, hf⟩ := x_bind hf
      refine x_getR C dX6_followBack_71 74 rfl hv71 cl8 rfl w197 ?_
      refine x_iload C dX6_followBack_74 76 rfl 4 rfl ?_
      obtain ⟨v76, hv76, hf⟩ := x_bind hf
      refine x_laload C dX6_followBack_76 77 rfl hv76 ?_
      refine x_aload_n C dX6_followBack_77 78 rfl 0 rfl rfl ?_
      obtain ⟨v78, hv78, hf⟩ := x_bind hf
      refine x_getR C dX6_followBack_78 81 rfl hv78 cl6 rfl w368 ?_
      obtain ⟨v81, hv81, hf⟩ := x_bind hf
      refine x_getR C dX6_followBack_81 84 rfl hv81 cl8 rfl w192 ?_
      refine x_iload C dX6_followBack_84 86 rfl 4 rfl ?_
      obtain ⟨v86, hv86, hf⟩ := x_bind hf
      refine x_laload C dX6_followBack_86 87 rfl hv86 ?_
      obtain ⟨w87, hw87, hf⟩ := x_bind hf
      refine x_callSl C dX6_followBack_87 90 rfl (cX10_replacedc hw87) kX10_replaced ksX10_replaced w1133 ⟨rfl, rfl⟩ ⟨Nat.le_of_ble_eq_true rfl, Nat.le_of_ble_eq_true rfl⟩ ⟨Nat.zero_le _, Nat.zero_le _⟩ rfl rfl (Nat.le_of_ble_eq_true rfl) ?_
      refine x_aload_n C dX6_followBack_90 91 rfl 0 rfl rfl ?_
      obtain ⟨v91, hv91, hf⟩ := x_bind hf
      refine x_getR C dX6_followBack_91 94 rfl hv91 cl6 rfl w372 ?_
      refine x_iload_n C dX6_followBack_94 95 rfl 1 rfl rfl ?_
      obtain ⟨v95, hv95, hf⟩ := x_bind hf
      refine x_iaload C dX6_followBack_95 96 rfl hv95 ?_
      refine x_iconst C dX6_followBack_96 97 rfl 1 (by decide) ?_
      refine x_iadd C dX6_followBack_97 98 rfl ?_
      obtain ⟨o98, ho98, hf⟩ := x_bind hf
      obtain ⟨w98, hw98, hf⟩ := x_bind hf
      refine x_callVv C dX6_followBack_98 101 rfl ho98 cl6.1 rfl (cX6_addc hw98) kX6_add kvX6_add w1119 ⟨rfl, rfl⟩ ⟨Nat.le_of_ble_eq_true rfl, Nat.le_of_ble_eq_true rfl⟩ ⟨Nat.zero_le _, Nat.zero_le _⟩ rfl rfl (Nat.le_of_ble_eq_true rfl) ?_
      obtain ⟨v101, ev101, hf⟩ := xlet_some hf
      refine x_iinc C dX6_followBack_101 104 rfl 4 rfl v101 ev101 rfl [(5, .int (v101)), (0, .ref (x0)), (1, .int (x1)), (2, .long (x2)), (4, .int (x4))] rfl ?_
      refine x_goto C dX6_followBack_104 22 (by decide) ?_
      refine x_lv [1, 2, 3, 4, 0] (lv' := [(0, .ref (x0)), (1, .int (x1)), (2, .long (x2)), (4, .int (x4)), (5, .int (v101))]) rfl ?_
      exact hK _ (Option.some.inj hf).symm
noncomputable def fLX6_followBack_10 (x0 : Nat) (x1 : Int32) (x2 : Int64) (a : Int32 × St) : Option ((Int32 × St) ⊕ (St)) :=
(fX10_length x2).bind fun w13 =>
if w13 < a.1 then
(some (Sum.inr a.2))
else
((iterP (fLX6_followBack_22 x0 x1 x2 a.1) (0, a.2)).bind fun b22 =>
xlet (a.1 + 1) fun v107 =>
some (Sum.inl (v107, b22)))
set_option maxHeartbeats 4000000 in
set_option maxRecDepth 100000 in
theorem lpX6_followBack_10 {X : xX} {x0 : Nat} {x1 : Int32} {x2 : Int64}  {a0 : Int32 × St} {b : St} (C : Ok X cX6_followBack 6 RX6 rmX6_followBack none) (hb : iterP (fLX6_followBack_10 x0 x1 x2) a0 = some b) (hy0 : ∀ s, b = s → V X (0, 0) s 113 [] []) : V X (0, 0) a0.2 10 [(0, .ref (x0)), (1, .int (x1)), (2, .long (x2)), (4, .int (a0.1))] [] := by
  obtain ⟨n, hn⟩ := iterP_some hb
  refine x_loop (P := fun a => V X (0, 0) a.2 10 [(0, .ref (x0)), (1, .int (x1)), (2, .long (x2)), (4, .int (a.1))] []) ?_ n a0 hn
  intro a c hf hK hxx
  have hx0 : ∀ s, c = Sum.inr s → V X (0, 0) s 113 [] [] := fun s e => hy0 s (hxx _ e).symm
  unfold fLX6_followBack_10 at hf
  refine x_iload C dX6_followBack_10 12 rfl 3 rfl ?_
  refine x_lload_n C dX6_followBack_12 13 rfl 2 rfl rfl ?_
  obtain ⟨w13, hw13, hf⟩ := x_bind hf
  refine x_callSi C dX6_followBack_13 16 rfl (cX10_lengthc hw13) kX10_length ksX10_length w1131 ⟨rfl, rfl⟩ ⟨Nat.le_of_ble_eq_true rfl, Nat.le_of_ble_eq_true rfl⟩ ⟨Nat.zero_le _, Nat.zero_le _⟩ rfl rfl (Nat.le_of_ble_eq_true rfl) ?_
  refine x_icmp_gt C dX6_followBack_16 113 (by decide) 19 rfl (fun hc => ?_) (fun hc => ?_)
  · have hf := (if_pos hc).symm.trans hf
    refine x_lv [] (lv' := []) rfl ?_
    exact hx0 _ (Option.some.inj hf).symm
  · have hf := (if_neg hc).symm.trans hf
    refine x_iconst C dX6_followBack_19 20 rfl 0 (by decide) ?_
    refine x_istore C dX6_followBack_20 22 rfl rfl [(5, .int (0)), (0, .ref (x0)), (1, .int (x1)), (2, .long (x2)), (4, .int (a.1))] rfl ?_
    obtain ⟨b22, hb22, hf⟩ := x_bind hf
    refine x_lv [1, 2, 3, 4, 0] (lv' := [(0, .ref (x0)), (1, .int (x1)), (2, .long (x2)), (4, .int (a.1)), (5, .int (0))]) rfl ?_
    refine lpX6_followBack_22 C hb22 (fun s22 e22 => ?_)
    subst e22
    obtain ⟨v107, ev107, hf⟩ := xlet_some hf
    refine x_iinc C dX6_followBack_107 110 rfl 3 rfl v107 ev107 rfl [(4, .int (v107)), (0, .ref (x0)), (1, .int (x1)), (2, .long (x2))] rfl ?_
    refine x_goto C dX6_followBack_110 10 (by decide) ?_
    refine x_lv [1, 2, 3, 0] (lv' := [(0, .ref (x0)), (1, .int (x1)), (2, .long (x2)), (4, .int (v107))]) rfl ?_
    exact hK _ (Option.some.inj hf).symm
noncomputable def fX6_followBack (σ : St) (x0 : Nat) (x1 : Int32) : Option (St) :=
(gR σ x0 6 2).bind fun v1 =>
(aL σ v1 x1).bind fun v5 =>
(iterP (fLX6_followBack_10 x0 x1 v5) (0, σ)).bind fun b10 =>
some b10
set_option maxHeartbeats 4000000 in
set_option maxRecDepth 100000 in
theorem cX6_followBackc {l : Launch} {G : xG} {A : Nat → Prop} {σ : St} {x0 : Nat} {x1 : Int32} {c : St} (hf : fX6_followBack σ x0 x1 = some c) : Con l yX6_followBack (xws yX6_followBack cX6_followBack 6 none) rmX6_followBack [.ref (x0), .int (x1)] G A σ none c := by
  refine x_start rfl (Nat.le_of_ble_eq_true rfl) (fun X _ _ _ C hE0 => ?_)
  have hE : ∀ r, c = r → xE1 X none r := fun r e => e ▸ hE0
  show V X (0, 0) σ 0 [(0, .ref (x0)), (1, .int (x1))] []
  unfold fX6_followBack at hf
  refine x_aload_n C dX6_followBack_0 1 rfl 0 rfl rfl ?_
  obtain ⟨v1, hv1, hf⟩ := x_bind hf
  refine x_getR C dX6_followBack_1 4 rfl hv1 cl6 rfl w370 ?_
  refine x_iload_n C dX6_followBack_4 5 rfl 1 rfl rfl ?_
  obtain ⟨v5, hv5, hf⟩ := x_bind hf
  refine x_laload C dX6_followBack_5 6 rfl hv5 ?_
  refine x_lstore_n C dX6_followBack_6 7 rfl rfl rfl [(2, .long (v5)), (0, .ref (x0)), (1, .int (x1))] rfl ?_
  refine x_iconst C dX6_followBack_7 8 rfl 0 (by decide) ?_
  refine x_istore C dX6_followBack_8 10 rfl rfl [(4, .int (0)), (2, .long (v5)), (0, .ref (x0)), (1, .int (x1))] rfl ?_
  obtain ⟨b10, hb10, hf⟩ := x_bind hf
  refine x_lv [2, 3, 1, 0] (lv' := [(0, .ref (x0)), (1, .int (x1)), (2, .long (v5)), (4, .int (0))]) rfl ?_
  refine lpX6_followBack_10 C hb10 (fun s10 e10 => ?_)
  subst e10
  exact x_vret C (hE _ (Option.some.inj hf).symm) dX6_followBack_113
theorem dX6_spread_0 : decode cX6_spread 0 = .ok (.aload_n 0, 1) := by decide +kernel
theorem dX6_spread_1 : decode cX6_spread 1 = .ok (.getfield 19, 3) := by decide +kernel
theorem dX6_spread_4 : decode cX6_spread 4 = .ok (.ifCond .le 29, 3) := by decide +kernel
theorem dX6_spread_7 : decode cX6_spread 7 = .ok (.aload_n 0, 1) := by decide +kernel
theorem dX6_spread_8 : decode cX6_spread 8 = .ok (.getfield 11, 3) := by decide +kernel
theorem dX6_spread_11 : decode cX6_spread 11 = .ok (.iconst 0, 1) := by decide +kernel
theorem dX6_spread_12 : decode cX6_spread 12 = .ok (.laload, 1) := by decide +kernel
theorem dX6_spread_13 : decode cX6_spread 13 = .ok (.lload_n 1, 1) := by decide +kernel
theorem dX6_spread_14 : decode cX6_spread 14 = .ok (.lcmp, 1) := by decide +kernel
theorem dX6_spread_15 : decode cX6_spread 15 = .ok (.ifCond .ne 18, 3) := by decide +kernel
theorem dX6_spread_18 : decode cX6_spread 18 = .ok (.aload_n 0, 1) := by decide +kernel
theorem dX6_spread_19 : decode cX6_spread 19 = .ok (.getfield 35, 3) := by decide +kernel
theorem dX6_spread_22 : decode cX6_spread 22 = .ok (.aload_n 0, 1) := by decide +kernel
theorem dX6_spread_23 : decode cX6_spread 23 = .ok (.getfield 38, 3) := by decide +kernel
theorem dX6_spread_26 : decode cX6_spread 26 = .ok (.getfield 46, 3) := by decide +kernel
theorem dX6_spread_29 : decode cX6_spread 29 = .ok (.if_icmp .ne 4, 3) := by decide +kernel
theorem dX6_spread_32 : decode cX6_spread 32 = .ok (.return_, 1) := by decide +kernel
theorem dX6_spread_33 : decode cX6_spread 33 = .ok (.aload_n 0, 1) := by decide +kernel
theorem dX6_spread_34 : decode cX6_spread 34 = .ok (.aload_n 0, 1) := by decide +kernel
theorem dX6_spread_35 : decode cX6_spread 35 = .ok (.getfield 38, 3) := by decide +kernel
theorem dX6_spread_38 : decode cX6_spread 38 = .ok (.getfield 46, 3) := by decide +kernel
theorem dX6_spread_41 : decode cX6_spread 41 = .ok (.putfield 35, 3) := by decide +kernel
theorem dX6_spread_44 : decode cX6_spread 44 = .ok (.aload_n 0, 1) := by decide +kernel
theorem dX6_spread_45 : decode cX6_spread 45 = .ok (.iconst 0, 1) := by decide +kernel
theorem dX6_spread_46 : decode cX6_spread 46 = .ok (.putfield 19, 3) := by decide +kernel
theorem dX6_spread_49 : decode cX6_spread 49 = .ok (.aload_n 0, 1) := by decide +kernel
theorem dX6_spread_50 : decode cX6_spread 50 = .ok (.iconst 0, 1) := by decide +kernel
theorem dX6_spread_51 : decode cX6_spread 51 = .ok (.putfield 23, 3) := by decide +kernel
theorem dX6_spread_54 : decode cX6_spread 54 = .ok (.aload_n 0, 1) := by decide +kernel
theorem dX6_spread_55 : decode cX6_spread 55 = .ok (.iconst (-1), 1) := by decide +kernel
theorem dX6_spread_56 : decode cX6_spread 56 = .ok (.putfield 26, 3) := by decide +kernel
theorem dX6_spread_59 : decode cX6_spread 59 = .ok (.aload_n 0, 1) := by decide +kernel
theorem dX6_spread_60 : decode cX6_spread 60 = .ok (.iconst (-1), 1) := by decide +kernel
theorem dX6_spread_61 : decode cX6_spread 61 = .ok (.putfield 29, 3) := by decide +kernel
theorem dX6_spread_64 : decode cX6_spread 64 = .ok (.aload_n 0, 1) := by decide +kernel
theorem dX6_spread_65 : decode cX6_spread 65 = .ok (.getfield 32, 3) := by decide +kernel
theorem dX6_spread_68 : decode cX6_spread 68 = .ok (.iconst 0, 1) := by decide +kernel
theorem dX6_spread_69 : decode cX6_spread 69 = .ok (.invokestatic 49, 3) := by decide +kernel
theorem dX6_spread_72 : decode cX6_spread 72 = .ok (.aload_n 0, 1) := by decide +kernel
theorem dX6_spread_73 : decode cX6_spread 73 = .ok (.lload_n 1, 1) := by decide +kernel
theorem dX6_spread_74 : decode cX6_spread 74 = .ok (.iconst 0, 1) := by decide +kernel
theorem dX6_spread_75 : decode cX6_spread 75 = .ok (.invokevirtual 55, 3) := by decide +kernel
theorem dX6_spread_78 : decode cX6_spread 78 = .ok (.iconst 0, 1) := by decide +kernel
theorem dX6_spread_79 : decode cX6_spread 79 = .ok (.istore_n 3, 1) := by decide +kernel
theorem dX6_spread_80 : decode cX6_spread 80 = .ok (.iload_n 3, 1) := by decide +kernel
theorem dX6_spread_81 : decode cX6_spread 81 = .ok (.aload_n 0, 1) := by decide +kernel
theorem dX6_spread_82 : decode cX6_spread 82 = .ok (.getfield 19, 3) := by decide +kernel
theorem dX6_spread_85 : decode cX6_spread 85 = .ok (.if_icmp .ge 71, 3) := by decide +kernel
theorem dX6_spread_88 : decode cX6_spread 88 = .ok (.iload_n 3, 1) := by decide +kernel
theorem dX6_spread_89 : decode cX6_spread 89 = .ok (.sipush 200, 3) := by decide +kernel
theorem dX6_spread_92 : decode cX6_spread 92 = .ok (.if_icmp .ge 64, 3) := by decide +kernel
theorem dX6_spread_95 : decode cX6_spread 95 = .ok (.aload_n 0, 1) := by decide +kernel
theorem dX6_spread_96 : decode cX6_spread 96 = .ok (.iload_n 3, 1) := by decide +kernel
theorem dX6_spread_97 : decode cX6_spread 97 = .ok (.invokevirtual 59, 3) := by decide +kernel
theorem dX6_spread_100 : decode cX6_spread 100 = .ok (.ifCond .ne 38, 3) := by decide +kernel
theorem dX6_spread_103 : decode cX6_spread 103 = .ok (.aload_n 0, 1) := by decide +kernel
theorem dX6_spread_104 : decode cX6_spread 104 = .ok (.dup, 1) := by decide +kernel
theorem dX6_spread_105 : decode cX6_spread 105 = .ok (.getfield 23, 3) := by decide +kernel
theorem dX6_spread_108 : decode cX6_spread 108 = .ok (.iconst 1, 1) := by decide +kernel
theorem dX6_spread_109 : decode cX6_spread 109 = .ok (.iadd, 1) := by decide +kernel
theorem dX6_spread_110 : decode cX6_spread 110 = .ok (.putfield 23, 3) := by decide +kernel
theorem dX6_spread_113 : decode cX6_spread 113 = .ok (.aload_n 0, 1) := by decide +kernel
theorem dX6_spread_114 : decode cX6_spread 114 = .ok (.aload_n 0, 1) := by decide +kernel
theorem dX6_spread_115 : decode cX6_spread 115 = .ok (.getfield 26, 3) := by decide +kernel
theorem dX6_spread_118 : decode cX6_spread 118 = .ok (.iconst (-1), 1) := by decide +kernel
theorem dX6_spread_119 : decode cX6_spread 119 = .ok (.if_icmp .ne 12, 3) := by decide +kernel
theorem dX6_spread_122 : decode cX6_spread 122 = .ok (.aload_n 0, 1) := by decide +kernel
theorem dX6_spread_123 : decode cX6_spread 123 = .ok (.getfield 15, 3) := by decide +kernel
theorem dX6_spread_126 : decode cX6_spread 126 = .ok (.iload_n 3, 1) := by decide +kernel
theorem dX6_spread_127 : decode cX6_spread 127 = .ok (.iaload, 1) := by decide +kernel
theorem dX6_spread_128 : decode cX6_spread 128 = .ok (.goto 7, 3) := by decide +kernel
theorem dX6_spread_131 : decode cX6_spread 131 = .ok (.aload_n 0, 1) := by decide +kernel
theorem dX6_spread_132 : decode cX6_spread 132 = .ok (.getfield 26, 3) := by decide +kernel
theorem dX6_spread_135 : decode cX6_spread 135 = .ok (.putfield 26, 3) := by decide +kernel
theorem dX6_spread_138 : decode cX6_spread 138 = .ok (.aload_n 0, 1) := by decide +kernel
theorem dX6_spread_139 : decode cX6_spread 139 = .ok (.getfield 42, 3) := by decide +kernel
theorem dX6_spread_142 : decode cX6_spread 142 = .ok (.ifCond .eq 8, 3) := by decide +kernel
theorem dX6_spread_145 : decode cX6_spread 145 = .ok (.aload_n 0, 1) := by decide +kernel
theorem dX6_spread_146 : decode cX6_spread 146 = .ok (.iload_n 3, 1) := by decide +kernel
theorem dX6_spread_147 : decode cX6_spread 147 = .ok (.invokevirtual 63, 3) := by decide +kernel
theorem dX6_spread_150 : decode cX6_spread 150 = .ok (.iinc 3 1, 3) := by decide +kernel
theorem dX6_spread_153 : decode cX6_spread 153 = .ok (.goto (-73), 3) := by decide +kernel
theorem dX6_spread_156 : decode cX6_spread 156 = .ok (.return_, 1) := by decide +kernel
abbrev rmX6_spread : Room := { frames := 3, cells := 0, slots := 0, locals := 74 }
noncomputable def fJX6_spread_80_135 (σ : St) (x0 : Nat) (x3 : Int32) (t0 : Int32) (t1 : Nat) : Option ((Int32 × St) ⊕ (St)) :=
(wrF σ t1 6 6 (.int (t0))).bind fun σ135 =>
(gI σ135 x0 6 1).bind fun v139 =>
if v139 = 0 then
(xlet (x3 + 1) fun v150 =>
some (Sum.inl (v150, σ135)))
else
((isO σ135 x0 6).bind fun _ =>
(fX6_followBack σ135 x0 x3).bind fun w147 =>
xlet (x3 + 1) fun v150 =>
some (Sum.inl (v150, w147)))
set_option maxHeartbeats 4000000 in
set_option maxRecDepth 100000 in
theorem jnX6_spread_80_135 {X : xX} {σ : St} {x0 : Nat} {x3 : Int32} {t0 : Int32} {t1 : Nat}  {c : (Int32 × St) ⊕ (St)} (C : Ok X cX6_spread 4 RX6 rmX6_spread none) (hf : fJX6_spread_80_135 σ x0 x3 t0 t1 = some c) (hK : ∀ a', c = Sum.inl a' → V X (0, 0) a'.2 80 [(0, .ref (x0)), (3, .int (a'.1))] []) (hx0 : ∀ s, c = Sum.inr s → V X (0, 0) s 156 [] []) : V X (0, 0) σ 135 [(0, .ref (x0)), (3, .int (x3))] [.int (t0), .ref (t1)] := by
  unfold fJX6_spread_80_135 at hf
  obtain ⟨σ135, hσ135, hf⟩ := x_bind hf
  refine x_putX C dX6_spread_135 138 rfl hσ135 cl6 rfl w378 rfl rfl rfl ?_
  refine x_aload_n C dX6_spread_138 139 rfl 0 rfl rfl ?_
  obtain ⟨v139, hv139, hf⟩ := x_bind hf
  refine x_getI C dX6_spread_139 142 rfl hv139 cl6 rfl w369 ?_
  refine x_if_eq C dX6_spread_142 150 (by decide) 145 rfl (fun hc => ?_) (fun hc => ?_)
  · have hf := (if_pos hc).symm.trans hf
    obtain ⟨v150, ev150, hf⟩ := xlet_some hf
    refine x_iinc C dX6_spread_150 153 rfl 1 rfl v150 ev150 rfl [(3, .int (v150)), (0, .ref (x0))] rfl ?_
    refine x_goto C dX6_spread_153 80 (by decide) ?_
    refine x_lv [1, 0] (lv' := [(0, .ref (x0)), (3, .int (v150))]) rfl ?_
    exact hK _ (Option.some.inj hf).symm
  · have hf := (if_neg hc).symm.trans hf
    refine x_aload_n C dX6_spread_145 146 rfl 0 rfl rfl ?_
    refine x_iload_n C dX6_spread_146 147 rfl 1 rfl rfl ?_
    obtain ⟨o147, ho147, hf⟩ := x_bind hf
    obtain ⟨w147, hw147, hf⟩ := x_bind hf
    refine x_callVv C dX6_spread_147 150 rfl ho147 cl6.1 rfl (cX6_followBackc hw147) kX6_followBack kvX6_followBack w1134 ⟨rfl, rfl⟩ ⟨Nat.le_of_ble_eq_true rfl, Nat.le_of_ble_eq_true rfl⟩ ⟨Nat.zero_le _, Nat.zero_le _⟩ rfl rfl (Nat.le_of_ble_eq_true rfl) ?_
    obtain ⟨v150, ev150, hf⟩ := xlet_some hf
    refine x_iinc C dX6_spread_150 153 rfl 1 rfl v150 ev150 rfl [(3, .int (v150)), (0, .ref (x0))] rfl ?_
    refine x_goto C dX6_spread_153 80 (by decide) ?_
    refine x_lv [1, 0] (lv' := [(0, .ref (x0)), (3, .int (v150))]) rfl ?_
    exact hK _ (Option.some.inj hf).symm
noncomputable def fLX6_spread_80 (x0 : Nat) (a : Int32 × St) : Option ((Int32 × St) ⊕ (St)) :=
(gI a.2 x0 6 4).bind fun v82 =>
if v82 ≤ a.1 then
(some (Sum.inr a.2))
else
(if ((200 : Int32)) ≤ a.1 then
(some (Sum.inr a.2))
else
((isO a.2 x0 6).bind fun _ =>
(fX6_follow a.2 x0 a.1).bind fun w97 =>
if w97.1 = 0 then
((gI w97.2 x0 6 5).bind fun v105 =>
(wrF w97.2 x0 6 5 (.int (v105 + 1))).bind fun σ110 =>
(gI σ110 x0 6 6).bind fun v115 =>
if v115 = (((-1) : Int32)) then
((gR σ110 x0 6 3).bind fun v123 =>
(aI σ110 v123 0 a.1).bind fun v127 =>
fJX6_spread_80_135 σ110 x0 a.1 v127 x0)
else
((gI σ110 x0 6 6).bind fun v132 =>
fJX6_spread_80_135 σ110 x0 a.1 v132 x0))
else
((gI w97.2 x0 6 1).bind fun v139 =>
if v139 = 0 then
(xlet (a.1 + 1) fun v150 =>
some (Sum.inl (v150, w97.2)))
else
((isO w97.2 x0 6).bind fun _ =>
(fX6_followBack w97.2 x0 a.1).bind fun w147 =>
xlet (a.1 + 1) fun v150 =>
some (Sum.inl (v150, w147))))))
set_option maxHeartbeats 4000000 in
set_option maxRecDepth 100000 in
theorem lpX6_spread_80 {X : xX} {x0 : Nat}  {a0 : Int32 × St} {b : St} (C : Ok X cX6_spread 4 RX6 rmX6_spread none) (hb : iterP (fLX6_spread_80 x0) a0 = some b) (hy0 : ∀ s, b = s → V X (0, 0) s 156 [] []) : V X (0, 0) a0.2 80 [(0, .ref (x0)), (3, .int (a0.1))] [] := by
  obtain ⟨n, hn⟩ := iterP_some hb
  refine x_loop (P := fun a => V X (0, 0) a.2 80 [(0, .ref (x0)), (3, .int (a.1))] []) ?_ n a0 hn
  intro a c hf hK hxx
  have hx0 : ∀ s, c = Sum.inr s → V X (0, 0) s 156 [] [] := fun s e => hy0 s (hxx _ e).symm
  unfold fLX6_spread_80 at hf
  refine x_iload_n C dX6_spread_80 81 rfl 1 rfl rfl ?_
  refine x_aload_n C dX6_spread_81 82 rfl 0 rfl rfl ?_
  obtain ⟨v82, hv82, hf⟩ := x_bind hf
  refine x_getI C dX6_spread_82 85 rfl hv82 cl6 rfl w374 ?_
  refine x_icmp_ge C dX6_spread_85 156 (by decide) 88 rfl (fun hc => ?_) (fun hc => ?_)
  · have hf := (if_pos hc).symm.trans hf
    refine x_lv [] (lv' := []) rfl ?_
    exact hx0 _ (Option.some.inj hf).symm
  · have hf := (if_neg hc).symm.trans hf
    refine x_iload_n C dX6_spread_88 89 rfl 1 rfl rfl ?_
    refine x_sipush C dX6_spread_89 92 rfl 200 (by decide) ?_
    refine x_icmp_ge C dX6_spread_92 156 (by decide) 95 rfl (fun hc => ?_) (fun hc => ?_)
    · have hf := (if_pos hc).symm.trans hf
      refine x_lv [] (lv' := []) rfl ?_
      exact hx0 _ (Option.some.inj hf).symm
    · have hf := (if_neg hc).symm.trans hf
      refine x_aload_n C dX6_spread_95 96 rfl 0 rfl rfl ?_
      refine x_iload_n C dX6_spread_96 97 rfl 1 rfl rfl ?_
      obtain ⟨o97, ho97, hf⟩ := x_bind hf
      obtain ⟨w97, hw97, hf⟩ := x_bind hf
      refine x_callVi C dX6_spread_97 100 rfl ho97 cl6.1 rfl (cX6_followc hw97) kX6_follow kvX6_follow w1127 ⟨rfl, rfl⟩ ⟨Nat.le_of_ble_eq_true rfl, Nat.le_of_ble_eq_true rfl⟩ ⟨Nat.zero_le _, Nat.zero_le _⟩ rfl rfl (Nat.le_of_ble_eq_true rfl) ?_
      refine x_if_ne C dX6_spread_100 138 (by decide) 103 rfl (fun hc => ?_) (fun hc => ?_)
      · have hf := (if_neg hc).symm.trans hf
        refine x_aload_n C dX6_spread_138 139 rfl 0 rfl rfl ?_
        obtain ⟨v139, hv139, hf⟩ := x_bind hf
        refine x_getI C dX6_spread_139 142 rfl hv139 cl6 rfl w369 ?_
        refine x_if_eq C dX6_spread_142 150 (by decide) 145 rfl (fun hc => ?_) (fun hc => ?_)
        · have hf := (if_pos hc).symm.trans hf
          obtain ⟨v150, ev150, hf⟩ := xlet_some hf
          refine x_iinc C dX6_spread_150 153 rfl 1 rfl v150 ev150 rfl [(3, .int (v150)), (0, .ref (x0))] rfl ?_
          refine x_goto C dX6_spread_153 80 (by decide) ?_
          refine x_lv [1, 0] (lv' := [(0, .ref (x0)), (3, .int (v150))]) rfl ?_
          exact hK _ (Option.some.inj hf).symm
        · have hf := (if_neg hc).symm.trans hf
          refine x_aload_n C dX6_spread_145 146 rfl 0 rfl rfl ?_
          refine x_iload_n C dX6_spread_146 147 rfl 1 rfl rfl ?_
          obtain ⟨o147, ho147, hf⟩ := x_bind hf
          obtain ⟨w147, hw147, hf⟩ := x_bind hf
          refine x_callVv C dX6_spread_147 150 rfl ho147 cl6.1 rfl (cX6_followBackc hw147) kX6_followBack kvX6_followBack w1134 ⟨rfl, rfl⟩ ⟨Nat.le_of_ble_eq_true rfl, Nat.le_of_ble_eq_true rfl⟩ ⟨Nat.zero_le _, Nat.zero_le _⟩ rfl rfl (Nat.le_of_ble_eq_true rfl) ?_
          obtain ⟨v150, ev150, hf⟩ := xlet_some hf
          refine x_iinc C dX6_spread_150 153 rfl 1 rfl v150 ev150 rfl [(3, .int (v150)), (0, .ref (x0))] rfl ?_
          refine x_goto C dX6_spread_153 80 (by decide) ?_
          refine x_lv [1, 0] (lv' := [(0, .ref (x0)), (3, .int (v150))]) rfl ?_
          exact hK _ (Option.some.inj hf).symm
      · have hf := (if_pos hc).symm.trans hf
        refine x_aload_n C dX6_spread_103 104 rfl 0 rfl rfl ?_
        refine x_dup C dX6_spread_104 105 rfl rfl ?_
        obtain ⟨v105, hv105, hf⟩ := x_bind hf
        refine x_getI C dX6_spread_105 108 rfl hv105 cl6 rfl w376 ?_
        refine x_iconst C dX6_spread_108 109 rfl 1 (by decide) ?_
        refine x_iadd C dX6_spread_109 110 rfl ?_
        obtain ⟨σ110, hσ110, hf⟩ := x_bind hf
        refine x_putX C dX6_spread_110 113 rfl hσ110 cl6 rfl w376 rfl rfl rfl ?_
        refine x_aload_n C dX6_spread_113 114 rfl 0 rfl rfl ?_
        refine x_aload_n C dX6_spread_114 115 rfl 0 rfl rfl ?_
        obtain ⟨v115, hv115, hf⟩ := x_bind hf
        refine x_getI C dX6_spread_115 118 rfl hv115 cl6 rfl w378 ?_
        refine x_iconst C dX6_spread_118 119 rfl (-1) (by decide) ?_
        refine x_icmp_ne C dX6_spread_119 131 (by decide) 122 rfl (fun hc => ?_) (fun hc => ?_)
        · have hf := (if_neg hc).symm.trans hf
          refine x_aload_n C dX6_spread_131 132 rfl 0 rfl rfl ?_
          obtain ⟨v132, hv132, hf⟩ := x_bind hf
          refine x_getI C dX6_spread_132 135 rfl hv132 cl6 rfl w378 ?_
          exact jnX6_spread_80_135 C hf hK hx0
        · have hf := (if_pos hc).symm.trans hf
          refine x_aload_n C dX6_spread_122 123 rfl 0 rfl rfl ?_
          obtain ⟨v123, hv123, hf⟩ := x_bind hf
          refine x_getR C dX6_spread_123 126 rfl hv123 cl6 rfl w372 ?_
          refine x_iload_n C dX6_spread_126 127 rfl 1 rfl rfl ?_
          obtain ⟨v127, hv127, hf⟩ := x_bind hf
          refine x_iaload C dX6_spread_127 128 rfl hv127 ?_
          refine x_goto C dX6_spread_128 135 (by decide) ?_
          exact jnX6_spread_80_135 C hf hK hx0
noncomputable def fJX6_spread_m_33 (σ : St) (x0 : Nat) (x1 : Int64)  : Option (St) :=
(gR σ x0 6 0).bind fun v35 =>
(gI σ v35 8 6).bind fun v38 =>
(wrF σ x0 6 9 (.int (v38))).bind fun σ41 =>
(wrF σ41 x0 6 4 (.int (0))).bind fun σ46 =>
(wrF σ46 x0 6 5 (.int (0))).bind fun σ51 =>
(wrF σ51 x0 6 6 (.int ((-1)))).bind fun σ56 =>
(wrF σ56 x0 6 7 (.int ((-1)))).bind fun σ61 =>
(gR σ61 x0 6 8).bind fun v65 =>
(fJ7_fill_53178 σ61 v65 0).bind fun w69 =>
(isO w69 x0 6).bind fun _ =>
(fX6_add w69 x0 x1 0).bind fun w75 =>
(iterP (fLX6_spread_80 x0) (0, w75)).bind fun b80 =>
some b80
set_option maxHeartbeats 4000000 in
set_option maxRecDepth 100000 in
theorem jnX6_spread_m_33 {X : xX} {σ : St} {x0 : Nat} {x1 : Int64}   {c : St} (C : Ok X cX6_spread 4 RX6 rmX6_spread none) (hf : fJX6_spread_m_33 σ x0 x1  = some c) (hE : ∀ r, c = r → xE1 X none r) : V X (0, 0) σ 33 [(0, .ref (x0)), (1, .long (x1))] [] := by
  unfold fJX6_spread_m_33 at hf
  refine x_aload_n C dX6_spread_33 34 rfl 0 rfl rfl ?_
  refine x_aload_n C dX6_spread_34 35 rfl 0 rfl rfl ?_
  obtain ⟨v35, hv35, hf⟩ := x_bind hf
  refine x_getR C dX6_spread_35 38 rfl hv35 cl6 rfl w368 ?_
  obtain ⟨v38, hv38, hf⟩ := x_bind hf
  refine x_getI C dX6_spread_38 41 rfl hv38 cl8 rfl w210 ?_
  obtain ⟨σ41, hσ41, hf⟩ := x_bind hf
  refine x_putX C dX6_spread_41 44 rfl hσ41 cl6 rfl w383 rfl rfl rfl ?_
  refine x_aload_n C dX6_spread_44 45 rfl 0 rfl rfl ?_
  refine x_iconst C dX6_spread_45 46 rfl 0 (by decide) ?_
  obtain ⟨σ46, hσ46, hf⟩ := x_bind hf
  refine x_putX C dX6_spread_46 49 rfl hσ46 cl6 rfl w374 rfl rfl rfl ?_
  refine x_aload_n C dX6_spread_49 50 rfl 0 rfl rfl ?_
  refine x_iconst C dX6_spread_50 51 rfl 0 (by decide) ?_
  obtain ⟨σ51, hσ51, hf⟩ := x_bind hf
  refine x_putX C dX6_spread_51 54 rfl hσ51 cl6 rfl w376 rfl rfl rfl ?_
  refine x_aload_n C dX6_spread_54 55 rfl 0 rfl rfl ?_
  refine x_iconst C dX6_spread_55 56 rfl (-1) (by decide) ?_
  obtain ⟨σ56, hσ56, hf⟩ := x_bind hf
  refine x_putX C dX6_spread_56 59 rfl hσ56 cl6 rfl w378 rfl rfl rfl ?_
  refine x_aload_n C dX6_spread_59 60 rfl 0 rfl rfl ?_
  refine x_iconst C dX6_spread_60 61 rfl (-1) (by decide) ?_
  obtain ⟨σ61, hσ61, hf⟩ := x_bind hf
  refine x_putX C dX6_spread_61 64 rfl hσ61 cl6 rfl w380 rfl rfl rfl ?_
  refine x_aload_n C dX6_spread_64 65 rfl 0 rfl rfl ?_
  obtain ⟨v65, hv65, hf⟩ := x_bind hf
  refine x_getR C dX6_spread_65 68 rfl hv65 cl6 rfl w382 ?_
  refine x_iconst C dX6_spread_68 69 rfl 0 (by decide) ?_
  obtain ⟨w69, hw69, hf⟩ := x_bind hf
  refine x_callSv C dX6_spread_69 72 rfl (cJ7_fill_53178c hw69) kJ7_fill_53178 ksJ7_fill_53178 w1118 ⟨rfl, rfl⟩ ⟨Nat.le_of_ble_eq_true rfl, Nat.le_of_ble_eq_true rfl⟩ ⟨Nat.zero_le _, Nat.zero_le _⟩ rfl rfl (Nat.le_of_ble_eq_true rfl) ?_
  refine x_aload_n C dX6_spread_72 73 rfl 0 rfl rfl ?_
  refine x_lload_n C dX6_spread_73 74 rfl 1 rfl rfl ?_
  refine x_iconst C dX6_spread_74 75 rfl 0 (by decide) ?_
  obtain ⟨o75, ho75, hf⟩ := x_bind hf
  obtain ⟨w75, hw75, hf⟩ := x_bind hf
  refine x_callVv C dX6_spread_75 78 rfl ho75 cl6.1 rfl (cX6_addc hw75) kX6_add kvX6_add w1119 ⟨rfl, rfl⟩ ⟨Nat.le_of_ble_eq_true rfl, Nat.le_of_ble_eq_true rfl⟩ ⟨Nat.zero_le _, Nat.zero_le _⟩ rfl rfl (Nat.le_of_ble_eq_true rfl) ?_
  refine x_iconst C dX6_spread_78 79 rfl 0 (by decide) ?_
  refine x_istore_n C dX6_spread_79 80 rfl rfl rfl [(3, .int (0)), (0, .ref (x0)), (1, .long (x1))] rfl ?_
  obtain ⟨b80, hb80, hf⟩ := x_bind hf
  refine x_lv [1, 0] (lv' := [(0, .ref (x0)), (3, .int (0))]) rfl ?_
  refine lpX6_spread_80 C hb80 (fun s80 e80 => ?_)
  subst e80
  exact x_vret C (hE _ (Option.some.inj hf).symm) dX6_spread_156
noncomputable def fX6_spread (σ : St) (x0 : Nat) (x1 : Int64) : Option (St) :=
(gI σ x0 6 4).bind fun v1 =>
if v1 ≤ 0 then
(fJX6_spread_m_33 σ x0 x1)
else
((gR σ x0 6 2).bind fun v8 =>
(aL σ v8 0).bind fun v12 =>
if (lg_cmp v12 x1) = 0 then
((gI σ x0 6 9).bind fun v19 =>
(gR σ x0 6 0).bind fun v23 =>
(gI σ v23 8 6).bind fun v26 =>
if v19 = v26 then
(some σ)
else
(fJX6_spread_m_33 σ x0 x1))
else
(fJX6_spread_m_33 σ x0 x1))
set_option maxHeartbeats 4000000 in
set_option maxRecDepth 100000 in
theorem cX6_spreadc {l : Launch} {G : xG} {A : Nat → Prop} {σ : St} {x0 : Nat} {x1 : Int64} {c : St} (hf : fX6_spread σ x0 x1 = some c) : Con l yX6_spread (xws yX6_spread cX6_spread 4 none) rmX6_spread [.ref (x0), .long (x1)] G A σ none c := by
  refine x_start rfl (Nat.le_of_ble_eq_true rfl) (fun X _ _ _ C hE0 => ?_)
  have hE : ∀ r, c = r → xE1 X none r := fun r e => e ▸ hE0
  show V X (0, 0) σ 0 [(0, .ref (x0)), (1, .long (x1))] []
  unfold fX6_spread at hf
  refine x_aload_n C dX6_spread_0 1 rfl 0 rfl rfl ?_
  obtain ⟨v1, hv1, hf⟩ := x_bind hf
  refine x_getI C dX6_spread_1 4 rfl hv1 cl6 rfl w374 ?_
  refine x_if_le C dX6_spread_4 33 (by decide) 7 rfl (fun hc => ?_) (fun hc => ?_)
  · have hf := (if_pos hc).symm.trans hf
    exact jnX6_spread_m_33 C hf hE
  · have hf := (if_neg hc).symm.trans hf
    refine x_aload_n C dX6_spread_7 8 rfl 0 rfl rfl ?_
    obtain ⟨v8, hv8, hf⟩ := x_bind hf
    refine x_getR C dX6_spread_8 11 rfl hv8 cl6 rfl w370 ?_
    refine x_iconst C dX6_spread_11 12 rfl 0 (by decide) ?_
    obtain ⟨v12, hv12, hf⟩ := x_bind hf
    refine x_laload C dX6_spread_12 13 rfl hv12 ?_
    refine x_lload_n C dX6_spread_13 14 rfl 1 rfl rfl ?_
    refine x_lcmp C dX6_spread_14 15 rfl ?_
    refine x_if_ne C dX6_spread_15 33 (by decide) 18 rfl (fun hc => ?_) (fun hc => ?_)
    · have hf := (if_neg hc).symm.trans hf
      exact jnX6_spread_m_33 C hf hE
    · have hf := (if_pos hc).symm.trans hf
      refine x_aload_n C dX6_spread_18 19 rfl 0 rfl rfl ?_
      obtain ⟨v19, hv19, hf⟩ := x_bind hf
      refine x_getI C dX6_spread_19 22 rfl hv19 cl6 rfl w383 ?_
      refine x_aload_n C dX6_spread_22 23 rfl 0 rfl rfl ?_
      obtain ⟨v23, hv23, hf⟩ := x_bind hf
      refine x_getR C dX6_spread_23 26 rfl hv23 cl6 rfl w368 ?_
      obtain ⟨v26, hv26, hf⟩ := x_bind hf
      refine x_getI C dX6_spread_26 29 rfl hv26 cl8 rfl w210 ?_
      refine x_icmp_ne C dX6_spread_29 33 (by decide) 32 rfl (fun hc => ?_) (fun hc => ?_)
      · have hf := (if_neg hc).symm.trans hf
        exact jnX6_spread_m_33 C hf hE
      · have hf := (if_pos hc).symm.trans hf
        exact x_vret C (hE _ (Option.some.inj hf).symm) dX6_spread_32
theorem dX7_hasEachOnce_0 : decode cX7_hasEachOnce 0 = .ok (.iconst 0, 1) := by decide +kernel
theorem dX7_hasEachOnce_1 : decode cX7_hasEachOnce 1 = .ok (.istore_n 1, 1) := by decide +kernel
theorem dX7_hasEachOnce_2 : decode cX7_hasEachOnce 2 = .ok (.aload_n 0, 1) := by decide +kernel
theorem dX7_hasEachOnce_3 : decode cX7_hasEachOnce 3 = .ok (.getfield 25, 3) := by decide +kernel
theorem dX7_hasEachOnce_6 : decode cX7_hasEachOnce 6 = .ok (.istore_n 2, 1) := by decide +kernel
theorem dX7_hasEachOnce_7 : decode cX7_hasEachOnce 7 = .ok (.iload_n 2, 1) := by decide +kernel
theorem dX7_hasEachOnce_8 : decode cX7_hasEachOnce 8 = .ok (.aload_n 0, 1) := by decide +kernel
theorem dX7_hasEachOnce_9 : decode cX7_hasEachOnce 9 = .ok (.getfield 28, 3) := by decide +kernel
theorem dX7_hasEachOnce_12 : decode cX7_hasEachOnce 12 = .ok (.if_icmp .ge 23, 3) := by decide +kernel
theorem dX7_hasEachOnce_15 : decode cX7_hasEachOnce 15 = .ok (.iload_n 1, 1) := by decide +kernel
theorem dX7_hasEachOnce_16 : decode cX7_hasEachOnce 16 = .ok (.iconst 1, 1) := by decide +kernel
theorem dX7_hasEachOnce_17 : decode cX7_hasEachOnce 17 = .ok (.aload_n 0, 1) := by decide +kernel
theorem dX7_hasEachOnce_18 : decode cX7_hasEachOnce 18 = .ok (.getfield 31, 3) := by decide +kernel
theorem dX7_hasEachOnce_21 : decode cX7_hasEachOnce 21 = .ok (.iload_n 2, 1) := by decide +kernel
theorem dX7_hasEachOnce_22 : decode cX7_hasEachOnce 22 = .ok (.iaload, 1) := by decide +kernel
theorem dX7_hasEachOnce_23 : decode cX7_hasEachOnce 23 = .ok (.bipush 97, 2) := by decide +kernel
theorem dX7_hasEachOnce_25 : decode cX7_hasEachOnce 25 = .ok (.isub, 1) := by decide +kernel
theorem dX7_hasEachOnce_26 : decode cX7_hasEachOnce 26 = .ok (.ishl, 1) := by decide +kernel
theorem dX7_hasEachOnce_27 : decode cX7_hasEachOnce 27 = .ok (.ior, 1) := by decide +kernel
theorem dX7_hasEachOnce_28 : decode cX7_hasEachOnce 28 = .ok (.istore_n 1, 1) := by decide +kernel
theorem dX7_hasEachOnce_29 : decode cX7_hasEachOnce 29 = .ok (.iinc 2 1, 3) := by decide +kernel
theorem dX7_hasEachOnce_32 : decode cX7_hasEachOnce 32 = .ok (.goto (-25), 3) := by decide +kernel
theorem dX7_hasEachOnce_35 : decode cX7_hasEachOnce 35 = .ok (.aload_n 0, 1) := by decide +kernel
theorem dX7_hasEachOnce_36 : decode cX7_hasEachOnce 36 = .ok (.getfield 28, 3) := by decide +kernel
theorem dX7_hasEachOnce_39 : decode cX7_hasEachOnce 39 = .ok (.aload_n 0, 1) := by decide +kernel
theorem dX7_hasEachOnce_40 : decode cX7_hasEachOnce 40 = .ok (.getfield 25, 3) := by decide +kernel
theorem dX7_hasEachOnce_43 : decode cX7_hasEachOnce 43 = .ok (.isub, 1) := by decide +kernel
theorem dX7_hasEachOnce_44 : decode cX7_hasEachOnce 44 = .ok (.aload_n 0, 1) := by decide +kernel
theorem dX7_hasEachOnce_45 : decode cX7_hasEachOnce 45 = .ok (.getfield 12, 3) := by decide +kernel
theorem dX7_hasEachOnce_48 : decode cX7_hasEachOnce 48 = .ok (.getfield 102, 3) := by decide +kernel
theorem dX7_hasEachOnce_51 : decode cX7_hasEachOnce 51 = .ok (.if_icmp .ne 21, 3) := by decide +kernel
theorem dX7_hasEachOnce_54 : decode cX7_hasEachOnce 54 = .ok (.iload_n 1, 1) := by decide +kernel
theorem dX7_hasEachOnce_55 : decode cX7_hasEachOnce 55 = .ok (.invokestatic 111, 3) := by decide +kernel
theorem dX7_hasEachOnce_58 : decode cX7_hasEachOnce 58 = .ok (.aload_n 0, 1) := by decide +kernel
theorem dX7_hasEachOnce_59 : decode cX7_hasEachOnce 59 = .ok (.getfield 12, 3) := by decide +kernel
theorem dX7_hasEachOnce_62 : decode cX7_hasEachOnce 62 = .ok (.getfield 102, 3) := by decide +kernel
theorem dX7_hasEachOnce_65 : decode cX7_hasEachOnce 65 = .ok (.if_icmp .ne 7, 3) := by decide +kernel
theorem dX7_hasEachOnce_68 : decode cX7_hasEachOnce 68 = .ok (.iconst 1, 1) := by decide +kernel
theorem dX7_hasEachOnce_69 : decode cX7_hasEachOnce 69 = .ok (.goto 4, 3) := by decide +kernel
theorem dX7_hasEachOnce_72 : decode cX7_hasEachOnce 72 = .ok (.iconst 0, 1) := by decide +kernel
theorem dX7_hasEachOnce_73 : decode cX7_hasEachOnce 73 = .ok (.ireturn, 1) := by decide +kernel
abbrev rmX7_hasEachOnce : Room := { frames := 1, cells := 0, slots := 0, locals := 20 }
noncomputable def fLX7_hasEachOnce_7 (σ : St) (x0 : Nat) (a : Int32 × Int32) : Option ((Int32 × Int32) ⊕ (Int32)) :=
(gI σ x0 7 5).bind fun v9 =>
if v9 ≤ a.2 then
(some (Sum.inr a.1))
else
((gR σ x0 7 1).bind fun v18 =>
(aI σ v18 0 a.2).bind fun v22 =>
xlet (a.1 ||| (1 <<< ((v22 - 97) &&& 31))) fun v28 =>
xlet (a.2 + 1) fun v29 =>
some (Sum.inl (v28, v29)))
set_option maxHeartbeats 4000000 in
set_option maxRecDepth 100000 in
theorem lpX7_hasEachOnce_7 {X : xX} {σ : St} {x0 : Nat}  {a0 : Int32 × Int32} {b : Int32} (C : Ok X cX7_hasEachOnce 3 RX7 rmX7_hasEachOnce (some .boolean)) (hb : iterP (fLX7_hasEachOnce_7 σ x0) a0 = some b) (hy0 : ∀ s, b = s → V X (0, 0) σ 35 [(0, .ref (x0)), (1, .int (s))] []) : V X (0, 0) σ 7 [(0, .ref (x0)), (1, .int (a0.1)), (2, .int (a0.2))] [] := by
  obtain ⟨n, hn⟩ := iterP_some hb
  refine x_loop (P := fun a => V X (0, 0) σ 7 [(0, .ref (x0)), (1, .int (a.1)), (2, .int (a.2))] []) ?_ n a0 hn
  intro a c hf hK hxx
  have hx0 : ∀ s, c = Sum.inr s → V X (0, 0) σ 35 [(0, .ref (x0)), (1, .int (s))] [] := fun s e => hy0 s (hxx _ e).symm
  unfold fLX7_hasEachOnce_7 at hf
  refine x_iload_n C dX7_hasEachOnce_7 8 rfl 2 rfl rfl ?_
  refine x_aload_n C dX7_hasEachOnce_8 9 rfl 0 rfl rfl ?_
  obtain ⟨v9, hv9, hf⟩ := x_bind hf
  refine x_getI C dX7_hasEachOnce_9 12 rfl hv9 cl7 rfl w292 ?_
  refine x_icmp_ge C dX7_hasEachOnce_12 35 (by decide) 15 rfl (fun hc => ?_) (fun hc => ?_)
  · have hf := (if_pos hc).symm.trans hf
    refine x_lv [0, 1] (lv' := [(0, .ref (x0)), (1, .int (a.1))]) rfl ?_
    exact hx0 _ (Option.some.inj hf).symm
  · have hf := (if_neg hc).symm.trans hf
    refine x_iload_n C dX7_hasEachOnce_15 16 rfl 1 rfl rfl ?_
    refine x_iconst C dX7_hasEachOnce_16 17 rfl 1 (by decide) ?_
    refine x_aload_n C dX7_hasEachOnce_17 18 rfl 0 rfl rfl ?_
    obtain ⟨v18, hv18, hf⟩ := x_bind hf
    refine x_getR C dX7_hasEachOnce_18 21 rfl hv18 cl7 rfl w287 ?_
    refine x_iload_n C dX7_hasEachOnce_21 22 rfl 2 rfl rfl ?_
    obtain ⟨v22, hv22, hf⟩ := x_bind hf
    refine x_iaload C dX7_hasEachOnce_22 23 rfl hv22 ?_
    refine x_bipush C dX7_hasEachOnce_23 25 rfl 97 (by decide) ?_
    refine x_isub C dX7_hasEachOnce_25 26 rfl ?_
    refine x_ishl C dX7_hasEachOnce_26 27 rfl ?_
    refine x_ior C dX7_hasEachOnce_27 28 rfl ?_
    obtain ⟨v28, ev28, hf⟩ := xlet_some hf
    refine x_topi ev28 ?_
    refine x_istore_n C dX7_hasEachOnce_28 29 rfl rfl rfl [(1, .int (v28)), (0, .ref (x0)), (2, .int (a.2))] rfl ?_
    obtain ⟨v29, ev29, hf⟩ := xlet_some hf
    refine x_iinc C dX7_hasEachOnce_29 32 rfl 2 rfl v29 ev29 rfl [(2, .int (v29)), (1, .int (v28)), (0, .ref (x0))] rfl ?_
    refine x_goto C dX7_hasEachOnce_32 7 (by decide) ?_
    refine x_lv [2, 1, 0] (lv' := [(0, .ref (x0)), (1, .int (v28)), (2, .int (v29))]) rfl ?_
    exact hK _ (Option.some.inj hf).symm
noncomputable def fX7_hasEachOnce (σ : St) (x0 : Nat) : Option (Int32) :=
(gI σ x0 7 4).bind fun v3 =>
(iterP (fLX7_hasEachOnce_7 σ x0) (0, v3)).bind fun b7 =>
(gI σ x0 7 5).bind fun v36 =>
(gI σ x0 7 4).bind fun v40 =>
(gR σ x0 7 0).bind fun v45 =>
(gI σ v45 8 0).bind fun v48 =>
if (v36 - v40) = v48 then
((fJ6_bitCount_0f7a4 b7).bind fun w55 =>
(gR σ x0 7 0).bind fun v59 =>
(gI σ v59 8 0).bind fun v62 =>
if w55 = v62 then
(some 1)
else
(some 0))
else
(some 0)
set_option maxHeartbeats 4000000 in
set_option maxRecDepth 100000 in
theorem cX7_hasEachOncec {l : Launch} {G : xG} {A : Nat → Prop} {σ : St} {x0 : Nat} {c : Int32} (hf : fX7_hasEachOnce σ x0 = some c) : Con l yX7_hasEachOnce (xws yX7_hasEachOnce cX7_hasEachOnce 3 (some .boolean)) rmX7_hasEachOnce [.ref (x0)] G A σ (some (.int c)) σ := by
  refine x_start rfl (Nat.le_of_ble_eq_true rfl) (fun X _ _ _ C hE0 => ?_)
  have hE : ∀ r, c = r → xE1 X (some (.int r)) σ := fun r e => e ▸ hE0
  show V X (0, 0) σ 0 [(0, .ref (x0))] []
  unfold fX7_hasEachOnce at hf
  refine x_iconst C dX7_hasEachOnce_0 1 rfl 0 (by decide) ?_
  refine x_istore_n C dX7_hasEachOnce_1 2 rfl rfl rfl [(1, .int (0)), (0, .ref (x0))] rfl ?_
  refine x_aload_n C dX7_hasEachOnce_2 3 rfl 1 rfl rfl ?_
  obtain ⟨v3, hv3, hf⟩ := x_bind hf
  refine x_getI C dX7_hasEachOnce_3 6 rfl hv3 cl7 rfl w290 ?_
  refine x_istore_n C dX7_hasEachOnce_6 7 rfl rfl rfl [(2, .int (v3)), (1, .int (0)), (0, .ref (x0))] rfl ?_
  obtain ⟨b7, hb7, hf⟩ := x_bind hf
  refine x_lv [2, 1, 0] (lv' := [(0, .ref (x0)), (1, .int (0)), (2, .int (v3))]) rfl ?_
  refine lpX7_hasEachOnce_7 C hb7 (fun s7 e7 => ?_)
  subst e7
  refine x_aload_n C dX7_hasEachOnce_35 36 rfl 0 rfl rfl ?_
  obtain ⟨v36, hv36, hf⟩ := x_bind hf
  refine x_getI C dX7_hasEachOnce_36 39 rfl hv36 cl7 rfl w292 ?_
  refine x_aload_n C dX7_hasEachOnce_39 40 rfl 0 rfl rfl ?_
  obtain ⟨v40, hv40, hf⟩ := x_bind hf
  refine x_getI C dX7_hasEachOnce_40 43 rfl hv40 cl7 rfl w290 ?_
  refine x_isub C dX7_hasEachOnce_43 44 rfl ?_
  refine x_aload_n C dX7_hasEachOnce_44 45 rfl 0 rfl rfl ?_
  obtain ⟨v45, hv45, hf⟩ := x_bind hf
  refine x_getR C dX7_hasEachOnce_45 48 rfl hv45 cl7 rfl w285 ?_
  obtain ⟨v48, hv48, hf⟩ := x_bind hf
  refine x_getI C dX7_hasEachOnce_48 51 rfl hv48 cl8 rfl w181 ?_
  refine x_icmp_ne C dX7_hasEachOnce_51 72 (by decide) 54 rfl (fun hc => ?_) (fun hc => ?_)
  · have hf := (if_neg hc).symm.trans hf
    refine x_iconst C dX7_hasEachOnce_72 73 rfl 0 (by decide) ?_
    exact x_zret C rfl (hE _ (Option.some.inj hf).symm) dX7_hasEachOnce_73
  · have hf := (if_pos hc).symm.trans hf
    refine x_iload_n C dX7_hasEachOnce_54 55 rfl 1 rfl rfl ?_
    obtain ⟨w55, hw55, hf⟩ := x_bind hf
    refine x_callSi C dX7_hasEachOnce_55 58 rfl (cJ6_bitCount_0f7a4c hw55) kJ6_bitCount_0f7a4 ksJ6_bitCount_0f7a4 w958 ⟨rfl, rfl⟩ ⟨Nat.le_of_ble_eq_true rfl, Nat.le_of_ble_eq_true rfl⟩ ⟨Nat.zero_le _, Nat.zero_le _⟩ rfl rfl (Nat.le_of_ble_eq_true rfl) ?_
    refine x_aload_n C dX7_hasEachOnce_58 59 rfl 0 rfl rfl ?_
    obtain ⟨v59, hv59, hf⟩ := x_bind hf
    refine x_getR C dX7_hasEachOnce_59 62 rfl hv59 cl7 rfl w285 ?_
    obtain ⟨v62, hv62, hf⟩ := x_bind hf
    refine x_getI C dX7_hasEachOnce_62 65 rfl hv62 cl8 rfl w181 ?_
    refine x_icmp_ne C dX7_hasEachOnce_65 72 (by decide) 68 rfl (fun hc => ?_) (fun hc => ?_)
    · have hf := (if_neg hc).symm.trans hf
      refine x_iconst C dX7_hasEachOnce_72 73 rfl 0 (by decide) ?_
      exact x_zret C rfl (hE _ (Option.some.inj hf).symm) dX7_hasEachOnce_73
    · have hf := (if_pos hc).symm.trans hf
      refine x_iconst C dX7_hasEachOnce_68 69 rfl 1 (by decide) ?_
      refine x_goto C dX7_hasEachOnce_69 73 (by decide) ?_
      exact x_zret C rfl (hE _ (Option.some.inj hf).symm) dX7_hasEachOnce_73
theorem dX7_isSign_0 : decode cX7_isSign 0 = .ok (.aload_n 0, 1) := by decide +kernel
theorem dX7_isSign_1 : decode cX7_isSign 1 = .ok (.getfield 22, 3) := by decide +kernel
theorem dX7_isSign_4 : decode cX7_isSign 4 = .ok (.iconst 3, 1) := by decide +kernel
theorem dX7_isSign_5 : decode cX7_isSign 5 = .ok (.if_icmp .ne 20, 3) := by decide +kernel
theorem dX7_isSign_8 : decode cX7_isSign 8 = .ok (.aload_n 0, 1) := by decide +kernel
theorem dX7_isSign_9 : decode cX7_isSign 9 = .ok (.getfield 31, 3) := by decide +kernel
theorem dX7_isSign_12 : decode cX7_isSign 12 = .ok (.aload_n 0, 1) := by decide +kernel
theorem dX7_isSign_13 : decode cX7_isSign 13 = .ok (.getfield 25, 3) := by decide +kernel
theorem dX7_isSign_16 : decode cX7_isSign 16 = .ok (.iaload, 1) := by decide +kernel
theorem dX7_isSign_17 : decode cX7_isSign 17 = .ok (.iload_n 1, 1) := by decide +kernel
theorem dX7_isSign_18 : decode cX7_isSign 18 = .ok (.if_icmp .ne 7, 3) := by decide +kernel
theorem dX7_isSign_21 : decode cX7_isSign 21 = .ok (.iconst 1, 1) := by decide +kernel
theorem dX7_isSign_22 : decode cX7_isSign 22 = .ok (.goto 4, 3) := by decide +kernel
theorem dX7_isSign_25 : decode cX7_isSign 25 = .ok (.iconst 0, 1) := by decide +kernel
theorem dX7_isSign_26 : decode cX7_isSign 26 = .ok (.ireturn, 1) := by decide +kernel
abbrev rmX7_isSign : Room := { frames := 0, cells := 0, slots := 0, locals := 0 }
noncomputable def fX7_isSign (σ : St) (x0 : Nat) (x1 : Int32) : Option (Int32) :=
(gI σ x0 7 3).bind fun v1 =>
if v1 = ((3 : Int32)) then
((gR σ x0 7 1).bind fun v9 =>
(gI σ x0 7 4).bind fun v13 =>
(aI σ v9 0 v13).bind fun v16 =>
if v16 = x1 then
(some 1)
else
(some 0))
else
(some 0)
set_option maxHeartbeats 4000000 in
set_option maxRecDepth 100000 in
theorem cX7_isSignc {l : Launch} {G : xG} {A : Nat → Prop} {σ : St} {x0 : Nat} {x1 : Int32} {c : Int32} (hf : fX7_isSign σ x0 x1 = some c) : Con l yX7_isSign (xws yX7_isSign cX7_isSign 2 (some .boolean)) rmX7_isSign [.ref (x0), .int (x1)] G A σ (some (.int c)) σ := by
  refine x_start rfl (Nat.le_of_ble_eq_true rfl) (fun X _ _ _ C hE0 => ?_)
  have hE : ∀ r, c = r → xE1 X (some (.int r)) σ := fun r e => e ▸ hE0
  show V X (0, 0) σ 0 [(0, .ref (x0)), (1, .int (x1))] []
  unfold fX7_isSign at hf
  refine x_aload_n C dX7_isSign_0 1 rfl 0 rfl rfl ?_
  obtain ⟨v1, hv1, hf⟩ := x_bind hf
  refine x_getI C dX7_isSign_1 4 rfl hv1 cl7 rfl w289 ?_
  refine x_iconst C dX7_isSign_4 5 rfl 3 (by decide) ?_
  refine x_icmp_ne C dX7_isSign_5 25 (by decide) 8 rfl (fun hc => ?_) (fun hc => ?_)
  · have hf := (if_neg hc).symm.trans hf
    refine x_iconst C dX7_isSign_25 26 rfl 0 (by decide) ?_
    exact x_zret C rfl (hE _ (Option.some.inj hf).symm) dX7_isSign_26
  · have hf := (if_pos hc).symm.trans hf
    refine x_aload_n C dX7_isSign_8 9 rfl 0 rfl rfl ?_
    obtain ⟨v9, hv9, hf⟩ := x_bind hf
    refine x_getR C dX7_isSign_9 12 rfl hv9 cl7 rfl w287 ?_
    refine x_aload_n C dX7_isSign_12 13 rfl 0 rfl rfl ?_
    obtain ⟨v13, hv13, hf⟩ := x_bind hf
    refine x_getI C dX7_isSign_13 16 rfl hv13 cl7 rfl w290 ?_
    obtain ⟨v16, hv16, hf⟩ := x_bind hf
    refine x_iaload C dX7_isSign_16 17 rfl hv16 ?_
    refine x_iload_n C dX7_isSign_17 18 rfl 1 rfl rfl ?_
    refine x_icmp_ne C dX7_isSign_18 25 (by decide) 21 rfl (fun hc => ?_) (fun hc => ?_)
    · have hf := (if_neg hc).symm.trans hf
      refine x_iconst C dX7_isSign_25 26 rfl 0 (by decide) ?_
      exact x_zret C rfl (hE _ (Option.some.inj hf).symm) dX7_isSign_26
    · have hf := (if_pos hc).symm.trans hf
      refine x_iconst C dX7_isSign_21 22 rfl 1 (by decide) ?_
      refine x_goto C dX7_isSign_22 26 (by decide) ?_
      exact x_zret C rfl (hE _ (Option.some.inj hf).symm) dX7_isSign_26
theorem dX7_kindAt_0 : decode cX7_kindAt 0 = .ok (.iload_n 1, 1) := by decide +kernel
theorem dX7_kindAt_1 : decode cX7_kindAt 1 = .ok (.aload_n 0, 1) := by decide +kernel
theorem dX7_kindAt_2 : decode cX7_kindAt 2 = .ok (.getfield 18, 3) := by decide +kernel
theorem dX7_kindAt_5 : decode cX7_kindAt 5 = .ok (.if_icmp .lt 5, 3) := by decide +kernel
theorem dX7_kindAt_8 : decode cX7_kindAt 8 = .ok (.iconst 0, 1) := by decide +kernel
theorem dX7_kindAt_9 : decode cX7_kindAt 9 = .ok (.ireturn, 1) := by decide +kernel
theorem dX7_kindAt_10 : decode cX7_kindAt 10 = .ok (.aload_n 0, 1) := by decide +kernel
theorem dX7_kindAt_11 : decode cX7_kindAt 11 = .ok (.getfield 31, 3) := by decide +kernel
theorem dX7_kindAt_14 : decode cX7_kindAt 14 = .ok (.iload_n 1, 1) := by decide +kernel
theorem dX7_kindAt_15 : decode cX7_kindAt 15 = .ok (.iaload, 1) := by decide +kernel
theorem dX7_kindAt_16 : decode cX7_kindAt 16 = .ok (.bipush 97, 2) := by decide +kernel
theorem dX7_kindAt_18 : decode cX7_kindAt 18 = .ok (.if_icmp .lt 16, 3) := by decide +kernel
theorem dX7_kindAt_21 : decode cX7_kindAt 21 = .ok (.aload_n 0, 1) := by decide +kernel
theorem dX7_kindAt_22 : decode cX7_kindAt 22 = .ok (.getfield 31, 3) := by decide +kernel
theorem dX7_kindAt_25 : decode cX7_kindAt 25 = .ok (.iload_n 1, 1) := by decide +kernel
theorem dX7_kindAt_26 : decode cX7_kindAt 26 = .ok (.iaload, 1) := by decide +kernel
theorem dX7_kindAt_27 : decode cX7_kindAt 27 = .ok (.bipush 122, 2) := by decide +kernel
theorem dX7_kindAt_29 : decode cX7_kindAt 29 = .ok (.if_icmp .gt 5, 3) := by decide +kernel
theorem dX7_kindAt_32 : decode cX7_kindAt 32 = .ok (.iconst 1, 1) := by decide +kernel
theorem dX7_kindAt_33 : decode cX7_kindAt 33 = .ok (.ireturn, 1) := by decide +kernel
theorem dX7_kindAt_34 : decode cX7_kindAt 34 = .ok (.aload_n 0, 1) := by decide +kernel
theorem dX7_kindAt_35 : decode cX7_kindAt 35 = .ok (.getfield 31, 3) := by decide +kernel
theorem dX7_kindAt_38 : decode cX7_kindAt 38 = .ok (.iload_n 1, 1) := by decide +kernel
theorem dX7_kindAt_39 : decode cX7_kindAt 39 = .ok (.iaload, 1) := by decide +kernel
theorem dX7_kindAt_40 : decode cX7_kindAt 40 = .ok (.bipush 48, 2) := by decide +kernel
theorem dX7_kindAt_42 : decode cX7_kindAt 42 = .ok (.if_icmp .lt 18, 3) := by decide +kernel
theorem dX7_kindAt_45 : decode cX7_kindAt 45 = .ok (.aload_n 0, 1) := by decide +kernel
theorem dX7_kindAt_46 : decode cX7_kindAt 46 = .ok (.getfield 31, 3) := by decide +kernel
theorem dX7_kindAt_49 : decode cX7_kindAt 49 = .ok (.iload_n 1, 1) := by decide +kernel
theorem dX7_kindAt_50 : decode cX7_kindAt 50 = .ok (.iaload, 1) := by decide +kernel
theorem dX7_kindAt_51 : decode cX7_kindAt 51 = .ok (.bipush 57, 2) := by decide +kernel
theorem dX7_kindAt_53 : decode cX7_kindAt 53 = .ok (.if_icmp .gt 7, 3) := by decide +kernel
theorem dX7_kindAt_56 : decode cX7_kindAt 56 = .ok (.iconst 2, 1) := by decide +kernel
theorem dX7_kindAt_57 : decode cX7_kindAt 57 = .ok (.goto 4, 3) := by decide +kernel
theorem dX7_kindAt_60 : decode cX7_kindAt 60 = .ok (.iconst 3, 1) := by decide +kernel
theorem dX7_kindAt_61 : decode cX7_kindAt 61 = .ok (.ireturn, 1) := by decide +kernel
abbrev rmX7_kindAt : Room := { frames := 0, cells := 0, slots := 0, locals := 0 }
noncomputable def fJX7_kindAt_m_34 (σ : St) (x0 : Nat) (x1 : Int32)  : Option (Int32) :=
(gR σ x0 7 1).bind fun v35 =>
(aI σ v35 0 x1).bind fun v39 =>
if v39 < ((48 : Int32)) then
(some 3)
else
((gR σ x0 7 1).bind fun v46 =>
(aI σ v46 0 x1).bind fun v50 =>
if ((57 : Int32)) < v50 then
(some 3)
else
(some 2))
set_option maxHeartbeats 4000000 in
set_option maxRecDepth 100000 in
theorem jnX7_kindAt_m_34 {X : xX} {σ : St} {x0 : Nat} {x1 : Int32}   {c : Int32} (C : Ok X cX7_kindAt 2 RX7 rmX7_kindAt (some .int)) (hf : fJX7_kindAt_m_34 σ x0 x1  = some c) (hE : ∀ r, c = r → xE1 X (some (.int r)) σ) : V X (0, 0) σ 34 [(0, .ref (x0)), (1, .int (x1))] [] := by
  unfold fJX7_kindAt_m_34 at hf
  refine x_aload_n C dX7_kindAt_34 35 rfl 0 rfl rfl ?_
  obtain ⟨v35, hv35, hf⟩ := x_bind hf
  refine x_getR C dX7_kindAt_35 38 rfl hv35 cl7 rfl w287 ?_
  refine x_iload_n C dX7_kindAt_38 39 rfl 1 rfl rfl ?_
  obtain ⟨v39, hv39, hf⟩ := x_bind hf
  refine x_iaload C dX7_kindAt_39 40 rfl hv39 ?_
  refine x_bipush C dX7_kindAt_40 42 rfl 48 (by decide) ?_
  refine x_icmp_lt C dX7_kindAt_42 60 (by decide) 45 rfl (fun hc => ?_) (fun hc => ?_)
  · have hf := (if_pos hc).symm.trans hf
    refine x_iconst C dX7_kindAt_60 61 rfl 3 (by decide) ?_
    exact x_iret C (hE _ (Option.some.inj hf).symm) dX7_kindAt_61
  · have hf := (if_neg hc).symm.trans hf
    refine x_aload_n C dX7_kindAt_45 46 rfl 0 rfl rfl ?_
    obtain ⟨v46, hv46, hf⟩ := x_bind hf
    refine x_getR C dX7_kindAt_46 49 rfl hv46 cl7 rfl w287 ?_
    refine x_iload_n C dX7_kindAt_49 50 rfl 1 rfl rfl ?_
    obtain ⟨v50, hv50, hf⟩ := x_bind hf
    refine x_iaload C dX7_kindAt_50 51 rfl hv50 ?_
    refine x_bipush C dX7_kindAt_51 53 rfl 57 (by decide) ?_
    refine x_icmp_gt C dX7_kindAt_53 60 (by decide) 56 rfl (fun hc => ?_) (fun hc => ?_)
    · have hf := (if_pos hc).symm.trans hf
      refine x_iconst C dX7_kindAt_60 61 rfl 3 (by decide) ?_
      exact x_iret C (hE _ (Option.some.inj hf).symm) dX7_kindAt_61
    · have hf := (if_neg hc).symm.trans hf
      refine x_iconst C dX7_kindAt_56 57 rfl 2 (by decide) ?_
      refine x_goto C dX7_kindAt_57 61 (by decide) ?_
      exact x_iret C (hE _ (Option.some.inj hf).symm) dX7_kindAt_61
noncomputable def fX7_kindAt (σ : St) (x0 : Nat) (x1 : Int32) : Option (Int32) :=
(gI σ x0 7 2).bind fun v2 =>
if x1 < v2 then
((gR σ x0 7 1).bind fun v11 =>
(aI σ v11 0 x1).bind fun v15 =>
if v15 < ((97 : Int32)) then
(fJX7_kindAt_m_34 σ x0 x1)
else
((gR σ x0 7 1).bind fun v22 =>
(aI σ v22 0 x1).bind fun v26 =>
if ((122 : Int32)) < v26 then
(fJX7_kindAt_m_34 σ x0 x1)
else
(some 1)))
else
(some 0)
set_option maxHeartbeats 4000000 in
set_option maxRecDepth 100000 in
theorem cX7_kindAtc {l : Launch} {G : xG} {A : Nat → Prop} {σ : St} {x0 : Nat} {x1 : Int32} {c : Int32} (hf : fX7_kindAt σ x0 x1 = some c) : Con l yX7_kindAt (xws yX7_kindAt cX7_kindAt 2 (some .int)) rmX7_kindAt [.ref (x0), .int (x1)] G A σ (some (.int c)) σ := by
  refine x_start rfl (Nat.le_of_ble_eq_true rfl) (fun X _ _ _ C hE0 => ?_)
  have hE : ∀ r, c = r → xE1 X (some (.int r)) σ := fun r e => e ▸ hE0
  show V X (0, 0) σ 0 [(0, .ref (x0)), (1, .int (x1))] []
  unfold fX7_kindAt at hf
  refine x_iload_n C dX7_kindAt_0 1 rfl 1 rfl rfl ?_
  refine x_aload_n C dX7_kindAt_1 2 rfl 0 rfl rfl ?_
  obtain ⟨v2, hv2, hf⟩ := x_bind hf
  refine x_getI C dX7_kindAt_2 5 rfl hv2 cl7 rfl w288 ?_
  refine x_icmp_lt C dX7_kindAt_5 10 (by decide) 8 rfl (fun hc => ?_) (fun hc => ?_)
  · have hf := (if_pos hc).symm.trans hf
    refine x_aload_n C dX7_kindAt_10 11 rfl 0 rfl rfl ?_
    obtain ⟨v11, hv11, hf⟩ := x_bind hf
    refine x_getR C dX7_kindAt_11 14 rfl hv11 cl7 rfl w287 ?_
    refine x_iload_n C dX7_kindAt_14 15 rfl 1 rfl rfl ?_
    obtain ⟨v15, hv15, hf⟩ := x_bind hf
    refine x_iaload C dX7_kindAt_15 16 rfl hv15 ?_
    refine x_bipush C dX7_kindAt_16 18 rfl 97 (by decide) ?_
    refine x_icmp_lt C dX7_kindAt_18 34 (by decide) 21 rfl (fun hc => ?_) (fun hc => ?_)
    · have hf := (if_pos hc).symm.trans hf
      exact jnX7_kindAt_m_34 C hf hE
    · have hf := (if_neg hc).symm.trans hf
      refine x_aload_n C dX7_kindAt_21 22 rfl 0 rfl rfl ?_
      obtain ⟨v22, hv22, hf⟩ := x_bind hf
      refine x_getR C dX7_kindAt_22 25 rfl hv22 cl7 rfl w287 ?_
      refine x_iload_n C dX7_kindAt_25 26 rfl 1 rfl rfl ?_
      obtain ⟨v26, hv26, hf⟩ := x_bind hf
      refine x_iaload C dX7_kindAt_26 27 rfl hv26 ?_
      refine x_bipush C dX7_kindAt_27 29 rfl 122 (by decide) ?_
      refine x_icmp_gt C dX7_kindAt_29 34 (by decide) 32 rfl (fun hc => ?_) (fun hc => ?_)
      · have hf := (if_pos hc).symm.trans hf
        exact jnX7_kindAt_m_34 C hf hE
      · have hf := (if_neg hc).symm.trans hf
        refine x_iconst C dX7_kindAt_32 33 rfl 1 (by decide) ?_
        exact x_iret C (hE _ (Option.some.inj hf).symm) dX7_kindAt_33
  · have hf := (if_neg hc).symm.trans hf
    refine x_iconst C dX7_kindAt_8 9 rfl 0 (by decide) ?_
    exact x_iret C (hE _ (Option.some.inj hf).symm) dX7_kindAt_9
theorem dX7_next_0 : decode cX7_next 0 = .ok (.aload_n 0, 1) := by decide +kernel
theorem dX7_next_1 : decode cX7_next 1 = .ok (.aload_n 0, 1) := by decide +kernel
theorem dX7_next_2 : decode cX7_next 2 = .ok (.getfield 28, 3) := by decide +kernel
theorem dX7_next_5 : decode cX7_next 5 = .ok (.putfield 25, 3) := by decide +kernel
theorem dX7_next_8 : decode cX7_next 8 = .ok (.aload_n 0, 1) := by decide +kernel
theorem dX7_next_9 : decode cX7_next 9 = .ok (.getfield 25, 3) := by decide +kernel
theorem dX7_next_12 : decode cX7_next 12 = .ok (.aload_n 0, 1) := by decide +kernel
theorem dX7_next_13 : decode cX7_next 13 = .ok (.getfield 18, 3) := by decide +kernel
theorem dX7_next_16 : decode cX7_next 16 = .ok (.if_icmp .ge 44, 3) := by decide +kernel
theorem dX7_next_19 : decode cX7_next 19 = .ok (.aload_n 0, 1) := by decide +kernel
theorem dX7_next_20 : decode cX7_next 20 = .ok (.getfield 31, 3) := by decide +kernel
theorem dX7_next_23 : decode cX7_next 23 = .ok (.aload_n 0, 1) := by decide +kernel
theorem dX7_next_24 : decode cX7_next 24 = .ok (.getfield 25, 3) := by decide +kernel
theorem dX7_next_27 : decode cX7_next 27 = .ok (.iaload, 1) := by decide +kernel
theorem dX7_next_28 : decode cX7_next 28 = .ok (.bipush 32, 2) := by decide +kernel
theorem dX7_next_30 : decode cX7_next 30 = .ok (.if_icmp .eq 17, 3) := by decide +kernel
theorem dX7_next_33 : decode cX7_next 33 = .ok (.aload_n 0, 1) := by decide +kernel
theorem dX7_next_34 : decode cX7_next 34 = .ok (.getfield 31, 3) := by decide +kernel
theorem dX7_next_37 : decode cX7_next 37 = .ok (.aload_n 0, 1) := by decide +kernel
theorem dX7_next_38 : decode cX7_next 38 = .ok (.getfield 25, 3) := by decide +kernel
theorem dX7_next_41 : decode cX7_next 41 = .ok (.iaload, 1) := by decide +kernel
theorem dX7_next_42 : decode cX7_next 42 = .ok (.bipush 10, 2) := by decide +kernel
theorem dX7_next_44 : decode cX7_next 44 = .ok (.if_icmp .ne 16, 3) := by decide +kernel
theorem dX7_next_47 : decode cX7_next 47 = .ok (.aload_n 0, 1) := by decide +kernel
theorem dX7_next_48 : decode cX7_next 48 = .ok (.dup, 1) := by decide +kernel
theorem dX7_next_49 : decode cX7_next 49 = .ok (.getfield 25, 3) := by decide +kernel
theorem dX7_next_52 : decode cX7_next 52 = .ok (.iconst 1, 1) := by decide +kernel
theorem dX7_next_53 : decode cX7_next 53 = .ok (.iadd, 1) := by decide +kernel
theorem dX7_next_54 : decode cX7_next 54 = .ok (.putfield 25, 3) := by decide +kernel
theorem dX7_next_57 : decode cX7_next 57 = .ok (.goto (-49), 3) := by decide +kernel
theorem dX7_next_60 : decode cX7_next 60 = .ok (.aload_n 0, 1) := by decide +kernel
theorem dX7_next_61 : decode cX7_next 61 = .ok (.aload_n 0, 1) := by decide +kernel
theorem dX7_next_62 : decode cX7_next 62 = .ok (.aload_n 0, 1) := by decide +kernel
theorem dX7_next_63 : decode cX7_next 63 = .ok (.getfield 25, 3) := by decide +kernel
theorem dX7_next_66 : decode cX7_next 66 = .ok (.invokevirtual 130, 3) := by decide +kernel
theorem dX7_next_69 : decode cX7_next 69 = .ok (.putfield 22, 3) := by decide +kernel
theorem dX7_next_72 : decode cX7_next 72 = .ok (.aload_n 0, 1) := by decide +kernel
theorem dX7_next_73 : decode cX7_next 73 = .ok (.aload_n 0, 1) := by decide +kernel
theorem dX7_next_74 : decode cX7_next 74 = .ok (.getfield 22, 3) := by decide +kernel
theorem dX7_next_77 : decode cX7_next 77 = .ok (.ifCond .ne 10, 3) := by decide +kernel
theorem dX7_next_80 : decode cX7_next 80 = .ok (.aload_n 0, 1) := by decide +kernel
theorem dX7_next_81 : decode cX7_next 81 = .ok (.getfield 25, 3) := by decide +kernel
theorem dX7_next_84 : decode cX7_next 84 = .ok (.goto 9, 3) := by decide +kernel
theorem dX7_next_87 : decode cX7_next 87 = .ok (.aload_n 0, 1) := by decide +kernel
theorem dX7_next_88 : decode cX7_next 88 = .ok (.getfield 25, 3) := by decide +kernel
theorem dX7_next_91 : decode cX7_next 91 = .ok (.iconst 1, 1) := by decide +kernel
theorem dX7_next_92 : decode cX7_next 92 = .ok (.iadd, 1) := by decide +kernel
theorem dX7_next_93 : decode cX7_next 93 = .ok (.putfield 28, 3) := by decide +kernel
theorem dX7_next_96 : decode cX7_next 96 = .ok (.aload_n 0, 1) := by decide +kernel
theorem dX7_next_97 : decode cX7_next 97 = .ok (.getfield 22, 3) := by decide +kernel
theorem dX7_next_100 : decode cX7_next 100 = .ok (.iconst 1, 1) := by decide +kernel
theorem dX7_next_101 : decode cX7_next 101 = .ok (.if_icmp .eq 11, 3) := by decide +kernel
theorem dX7_next_104 : decode cX7_next 104 = .ok (.aload_n 0, 1) := by decide +kernel
theorem dX7_next_105 : decode cX7_next 105 = .ok (.getfield 22, 3) := by decide +kernel
theorem dX7_next_108 : decode cX7_next 108 = .ok (.iconst 2, 1) := by decide +kernel
theorem dX7_next_109 : decode cX7_next 109 = .ok (.if_icmp .ne 42, 3) := by decide +kernel
theorem dX7_next_112 : decode cX7_next 112 = .ok (.aload_n 0, 1) := by decide +kernel
theorem dX7_next_113 : decode cX7_next 113 = .ok (.getfield 28, 3) := by decide +kernel
theorem dX7_next_116 : decode cX7_next 116 = .ok (.aload_n 0, 1) := by decide +kernel
theorem dX7_next_117 : decode cX7_next 117 = .ok (.getfield 18, 3) := by decide +kernel
theorem dX7_next_120 : decode cX7_next 120 = .ok (.if_icmp .ge 31, 3) := by decide +kernel
theorem dX7_next_123 : decode cX7_next 123 = .ok (.aload_n 0, 1) := by decide +kernel
theorem dX7_next_124 : decode cX7_next 124 = .ok (.aload_n 0, 1) := by decide +kernel
theorem dX7_next_125 : decode cX7_next 125 = .ok (.getfield 28, 3) := by decide +kernel
theorem dX7_next_128 : decode cX7_next 128 = .ok (.invokevirtual 130, 3) := by decide +kernel
theorem dX7_next_131 : decode cX7_next 131 = .ok (.aload_n 0, 1) := by decide +kernel
theorem dX7_next_132 : decode cX7_next 132 = .ok (.getfield 22, 3) := by decide +kernel
theorem dX7_next_135 : decode cX7_next 135 = .ok (.if_icmp .ne 16, 3) := by decide +kernel
theorem dX7_next_138 : decode cX7_next 138 = .ok (.aload_n 0, 1) := by decide +kernel
theorem dX7_next_139 : decode cX7_next 139 = .ok (.dup, 1) := by decide +kernel
theorem dX7_next_140 : decode cX7_next 140 = .ok (.getfield 28, 3) := by decide +kernel
theorem dX7_next_143 : decode cX7_next 143 = .ok (.iconst 1, 1) := by decide +kernel
theorem dX7_next_144 : decode cX7_next 144 = .ok (.iadd, 1) := by decide +kernel
theorem dX7_next_145 : decode cX7_next 145 = .ok (.putfield 28, 3) := by decide +kernel
theorem dX7_next_148 : decode cX7_next 148 = .ok (.goto (-52), 3) := by decide +kernel
theorem dX7_next_151 : decode cX7_next 151 = .ok (.return_, 1) := by decide +kernel
abbrev rmX7_next : Room := { frames := 1, cells := 0, slots := 0, locals := 21 }
noncomputable def fLX7_next_8 (x0 : Nat) (a : St) : Option ((St) ⊕ (St)) :=
(gI a x0 7 4).bind fun v9 =>
(gI a x0 7 2).bind fun v13 =>
if v13 ≤ v9 then
(some (Sum.inr a))
else
((gR a x0 7 1).bind fun v20 =>
(gI a x0 7 4).bind fun v24 =>
(aI a v20 0 v24).bind fun v27 =>
if v27 = ((32 : Int32)) then
((gI a x0 7 4).bind fun v49 =>
(wrF a x0 7 4 (.int (v49 + 1))).bind fun σ54 =>
some (Sum.inl σ54))
else
((gR a x0 7 1).bind fun v34 =>
(gI a x0 7 4).bind fun v38 =>
(aI a v34 0 v38).bind fun v41 =>
if v41 = ((10 : Int32)) then
((gI a x0 7 4).bind fun v49 =>
(wrF a x0 7 4 (.int (v49 + 1))).bind fun σ54 =>
some (Sum.inl σ54))
else
(some (Sum.inr a))))
set_option maxHeartbeats 4000000 in
set_option maxRecDepth 100000 in
theorem lpX7_next_8 {X : xX} {x0 : Nat}  {a0 : St} {b : St} (C : Ok X cX7_next 1 RX7 rmX7_next none) (hb : iterP (fLX7_next_8 x0) a0 = some b) (hy0 : ∀ s, b = s → V X (0, 0) s 60 [(0, .ref (x0))] []) : V X (0, 0) a0 8 [(0, .ref (x0))] [] := by
  obtain ⟨n, hn⟩ := iterP_some hb
  refine x_loop (P := fun a => V X (0, 0) a 8 [(0, .ref (x0))] []) ?_ n a0 hn
  intro a c hf hK hxx
  have hx0 : ∀ s, c = Sum.inr s → V X (0, 0) s 60 [(0, .ref (x0))] [] := fun s e => hy0 s (hxx _ e).symm
  unfold fLX7_next_8 at hf
  refine x_aload_n C dX7_next_8 9 rfl 0 rfl rfl ?_
  obtain ⟨v9, hv9, hf⟩ := x_bind hf
  refine x_getI C dX7_next_9 12 rfl hv9 cl7 rfl w290 ?_
  refine x_aload_n C dX7_next_12 13 rfl 0 rfl rfl ?_
  obtain ⟨v13, hv13, hf⟩ := x_bind hf
  refine x_getI C dX7_next_13 16 rfl hv13 cl7 rfl w288 ?_
  refine x_icmp_ge C dX7_next_16 60 (by decide) 19 rfl (fun hc => ?_) (fun hc => ?_)
  · have hf := (if_pos hc).symm.trans hf
    exact hx0 _ (Option.some.inj hf).symm
  · have hf := (if_neg hc).symm.trans hf
    refine x_aload_n C dX7_next_19 20 rfl 0 rfl rfl ?_
    obtain ⟨v20, hv20, hf⟩ := x_bind hf
    refine x_getR C dX7_next_20 23 rfl hv20 cl7 rfl w287 ?_
    refine x_aload_n C dX7_next_23 24 rfl 0 rfl rfl ?_
    obtain ⟨v24, hv24, hf⟩ := x_bind hf
    refine x_getI C dX7_next_24 27 rfl hv24 cl7 rfl w290 ?_
    obtain ⟨v27, hv27, hf⟩ := x_bind hf
    refine x_iaload C dX7_next_27 28 rfl hv27 ?_
    refine x_bipush C dX7_next_28 30 rfl 32 (by decide) ?_
    refine x_icmp_eq C dX7_next_30 47 (by decide) 33 rfl (fun hc => ?_) (fun hc => ?_)
    · have hf := (if_pos hc).symm.trans hf
      refine x_aload_n C dX7_next_47 48 rfl 0 rfl rfl ?_
      refine x_dup C dX7_next_48 49 rfl rfl ?_
      obtain ⟨v49, hv49, hf⟩ := x_bind hf
      refine x_getI C dX7_next_49 52 rfl hv49 cl7 rfl w290 ?_
      refine x_iconst C dX7_next_52 53 rfl 1 (by decide) ?_
      refine x_iadd C dX7_next_53 54 rfl ?_
      obtain ⟨σ54, hσ54, hf⟩ := x_bind hf
      refine x_putX C dX7_next_54 57 rfl hσ54 cl7 rfl w290 rfl rfl rfl ?_
      refine x_goto C dX7_next_57 8 (by decide) ?_
      exact hK _ (Option.some.inj hf).symm
    · have hf := (if_neg hc).symm.trans hf
      refine x_aload_n C dX7_next_33 34 rfl 0 rfl rfl ?_
      obtain ⟨v34, hv34, hf⟩ := x_bind hf
      refine x_getR C dX7_next_34 37 rfl hv34 cl7 rfl w287 ?_
      refine x_aload_n C dX7_next_37 38 rfl 0 rfl rfl ?_
      obtain ⟨v38, hv38, hf⟩ := x_bind hf
      refine x_getI C dX7_next_38 41 rfl hv38 cl7 rfl w290 ?_
      obtain ⟨v41, hv41, hf⟩ := x_bind hf
      refine x_iaload C dX7_next_41 42 rfl hv41 ?_
      refine x_bipush C dX7_next_42 44 rfl 10 (by decide) ?_
      refine x_icmp_ne C dX7_next_44 60 (by decide) 47 rfl (fun hc => ?_) (fun hc => ?_)
      · have hf := (if_neg hc).symm.trans hf
        exact hx0 _ (Option.some.inj hf).symm
      · have hf := (if_pos hc).symm.trans hf
        refine x_aload_n C dX7_next_47 48 rfl 0 rfl rfl ?_
        refine x_dup C dX7_next_48 49 rfl rfl ?_
        obtain ⟨v49, hv49, hf⟩ := x_bind hf
        refine x_getI C dX7_next_49 52 rfl hv49 cl7 rfl w290 ?_
        refine x_iconst C dX7_next_52 53 rfl 1 (by decide) ?_
        refine x_iadd C dX7_next_53 54 rfl ?_
        obtain ⟨σ54, hσ54, hf⟩ := x_bind hf
        refine x_putX C dX7_next_54 57 rfl hσ54 cl7 rfl w290 rfl rfl rfl ?_
        refine x_goto C dX7_next_57 8 (by decide) ?_
        exact hK _ (Option.some.inj hf).symm
noncomputable def fJX7_next_96_112 (σ : St) (x0 : Nat)  : Option ((St) ⊕ (St)) :=
(gI σ x0 7 5).bind fun v113 =>
(gI σ x0 7 2).bind fun v117 =>
if v117 ≤ v113 then
(some (Sum.inr σ))
else
((gI σ x0 7 5).bind fun v125 =>
(isO σ x0 7).bind fun _ =>
(fX7_kindAt σ x0 v125).bind fun w128 =>
(gI σ x0 7 3).bind fun v132 =>
if w128 = v132 then
((gI σ x0 7 5).bind fun v140 =>
(wrF σ x0 7 5 (.int (v140 + 1))).bind fun σ145 =>
some (Sum.inl σ145))
else
(some (Sum.inr σ)))
set_option maxHeartbeats 4000000 in
set_option maxRecDepth 100000 in
theorem jnX7_next_96_112 {X : xX} {σ : St} {x0 : Nat}   {c : (St) ⊕ (St)} (C : Ok X cX7_next 1 RX7 rmX7_next none) (hf : fJX7_next_96_112 σ x0  = some c) (hK : ∀ a', c = Sum.inl a' → V X (0, 0) a' 96 [(0, .ref (x0))] []) (hx0 : ∀ s, c = Sum.inr s → V X (0, 0) s 151 [] []) : V X (0, 0) σ 112 [(0, .ref (x0))] [] := by
  unfold fJX7_next_96_112 at hf
  refine x_aload_n C dX7_next_112 113 rfl 0 rfl rfl ?_
  obtain ⟨v113, hv113, hf⟩ := x_bind hf
  refine x_getI C dX7_next_113 116 rfl hv113 cl7 rfl w292 ?_
  refine x_aload_n C dX7_next_116 117 rfl 0 rfl rfl ?_
  obtain ⟨v117, hv117, hf⟩ := x_bind hf
  refine x_getI C dX7_next_117 120 rfl hv117 cl7 rfl w288 ?_
  refine x_icmp_ge C dX7_next_120 151 (by decide) 123 rfl (fun hc => ?_) (fun hc => ?_)
  · have hf := (if_pos hc).symm.trans hf
    refine x_lv [] (lv' := []) rfl ?_
    exact hx0 _ (Option.some.inj hf).symm
  · have hf := (if_neg hc).symm.trans hf
    refine x_aload_n C dX7_next_123 124 rfl 0 rfl rfl ?_
    refine x_aload_n C dX7_next_124 125 rfl 0 rfl rfl ?_
    obtain ⟨v125, hv125, hf⟩ := x_bind hf
    refine x_getI C dX7_next_125 128 rfl hv125 cl7 rfl w292 ?_
    obtain ⟨o128, ho128, hf⟩ := x_bind hf
    obtain ⟨w128, hw128, hf⟩ := x_bind hf
    refine x_callVi C dX7_next_128 131 rfl ho128 cl7.1 rfl (cX7_kindAtc hw128) kX7_kindAt kvX7_kindAt w845 ⟨rfl, rfl⟩ ⟨Nat.le_of_ble_eq_true rfl, Nat.le_of_ble_eq_true rfl⟩ ⟨Nat.zero_le _, Nat.zero_le _⟩ rfl rfl (Nat.le_of_ble_eq_true rfl) ?_
    refine x_aload_n C dX7_next_131 132 rfl 0 rfl rfl ?_
    obtain ⟨v132, hv132, hf⟩ := x_bind hf
    refine x_getI C dX7_next_132 135 rfl hv132 cl7 rfl w289 ?_
    refine x_icmp_ne C dX7_next_135 151 (by decide) 138 rfl (fun hc => ?_) (fun hc => ?_)
    · have hf := (if_neg hc).symm.trans hf
      refine x_lv [] (lv' := []) rfl ?_
      exact hx0 _ (Option.some.inj hf).symm
    · have hf := (if_pos hc).symm.trans hf
      refine x_aload_n C dX7_next_138 139 rfl 0 rfl rfl ?_
      refine x_dup C dX7_next_139 140 rfl rfl ?_
      obtain ⟨v140, hv140, hf⟩ := x_bind hf
      refine x_getI C dX7_next_140 143 rfl hv140 cl7 rfl w292 ?_
      refine x_iconst C dX7_next_143 144 rfl 1 (by decide) ?_
      refine x_iadd C dX7_next_144 145 rfl ?_
      obtain ⟨σ145, hσ145, hf⟩ := x_bind hf
      refine x_putX C dX7_next_145 148 rfl hσ145 cl7 rfl w292 rfl rfl rfl ?_
      refine x_goto C dX7_next_148 96 (by decide) ?_
      exact hK _ (Option.some.inj hf).symm
noncomputable def fLX7_next_96 (x0 : Nat) (a : St) : Option ((St) ⊕ (St)) :=
(gI a x0 7 3).bind fun v97 =>
if v97 = ((1 : Int32)) then
(fJX7_next_96_112 a x0)
else
((gI a x0 7 3).bind fun v105 =>
if v105 = ((2 : Int32)) then
(fJX7_next_96_112 a x0)
else
(some (Sum.inr a)))
set_option maxHeartbeats 4000000 in
set_option maxRecDepth 100000 in
theorem lpX7_next_96 {X : xX} {x0 : Nat}  {a0 : St} {b : St} (C : Ok X cX7_next 1 RX7 rmX7_next none) (hb : iterP (fLX7_next_96 x0) a0 = some b) (hy0 : ∀ s, b = s → V X (0, 0) s 151 [] []) : V X (0, 0) a0 96 [(0, .ref (x0))] [] := by
  obtain ⟨n, hn⟩ := iterP_some hb
  refine x_loop (P := fun a => V X (0, 0) a 96 [(0, .ref (x0))] []) ?_ n a0 hn
  intro a c hf hK hxx
  have hx0 : ∀ s, c = Sum.inr s → V X (0, 0) s 151 [] [] := fun s e => hy0 s (hxx _ e).symm
  unfold fLX7_next_96 at hf
  refine x_aload_n C dX7_next_96 97 rfl 0 rfl rfl ?_
  obtain ⟨v97, hv97, hf⟩ := x_bind hf
  refine x_getI C dX7_next_97 100 rfl hv97 cl7 rfl w289 ?_
  refine x_iconst C dX7_next_100 101 rfl 1 (by decide) ?_
  refine x_icmp_eq C dX7_next_101 112 (by decide) 104 rfl (fun hc => ?_) (fun hc => ?_)
  · have hf := (if_pos hc).symm.trans hf
    exact jnX7_next_96_112 C hf hK hx0
  · have hf := (if_neg hc).symm.trans hf
    refine x_aload_n C dX7_next_104 105 rfl 0 rfl rfl ?_
    obtain ⟨v105, hv105, hf⟩ := x_bind hf
    refine x_getI C dX7_next_105 108 rfl hv105 cl7 rfl w289 ?_
    refine x_iconst C dX7_next_108 109 rfl 2 (by decide) ?_
    refine x_icmp_ne C dX7_next_109 151 (by decide) 112 rfl (fun hc => ?_) (fun hc => ?_)
    · have hf := (if_neg hc).symm.trans hf
      refine x_lv [] (lv' := []) rfl ?_
      exact hx0 _ (Option.some.inj hf).symm
    · have hf := (if_pos hc).symm.trans hf
      exact jnX7_next_96_112 C hf hK hx0
noncomputable def fJX7_next_m_93 (σ : St) (x0 : Nat) (t0 : Int32) (t1 : Nat) : Option (St) :=
(wrF σ t1 7 5 (.int (t0))).bind fun σ93 =>
(iterP (fLX7_next_96 x0) σ93).bind fun b96 =>
some b96
set_option maxHeartbeats 4000000 in
set_option maxRecDepth 100000 in
theorem jnX7_next_m_93 {X : xX} {σ : St} {x0 : Nat} {t0 : Int32} {t1 : Nat}  {c : St} (C : Ok X cX7_next 1 RX7 rmX7_next none) (hf : fJX7_next_m_93 σ x0 t0 t1 = some c) (hE : ∀ r, c = r → xE1 X none r) : V X (0, 0) σ 93 [(0, .ref (x0))] [.int (t0), .ref (t1)] := by
  unfold fJX7_next_m_93 at hf
  obtain ⟨σ93, hσ93, hf⟩ := x_bind hf
  refine x_putX C dX7_next_93 96 rfl hσ93 cl7 rfl w292 rfl rfl rfl ?_
  obtain ⟨b96, hb96, hf⟩ := x_bind hf
  refine lpX7_next_96 C hb96 (fun s96 e96 => ?_)
  subst e96
  exact x_vret C (hE _ (Option.some.inj hf).symm) dX7_next_151
noncomputable def fJX7_next_m_60 (σ : St) (x0 : Nat)  : Option (St) :=
(gI σ x0 7 4).bind fun v63 =>
(isO σ x0 7).bind fun _ =>
(fX7_kindAt σ x0 v63).bind fun w66 =>
(wrF σ x0 7 3 (.int (w66))).bind fun σ69 =>
(gI σ69 x0 7 3).bind fun v74 =>
if v74 = 0 then
((gI σ69 x0 7 4).bind fun v81 =>
fJX7_next_m_93 σ69 x0 v81 x0)
else
((gI σ69 x0 7 4).bind fun v88 =>
fJX7_next_m_93 σ69 x0 (v88 + 1) x0)
set_option maxHeartbeats 4000000 in
set_option maxRecDepth 100000 in
theorem jnX7_next_m_60 {X : xX} {σ : St} {x0 : Nat}   {c : St} (C : Ok X cX7_next 1 RX7 rmX7_next none) (hf : fJX7_next_m_60 σ x0  = some c) (hE : ∀ r, c = r → xE1 X none r) : V X (0, 0) σ 60 [(0, .ref (x0))] [] := by
  unfold fJX7_next_m_60 at hf
  refine x_aload_n C dX7_next_60 61 rfl 0 rfl rfl ?_
  refine x_aload_n C dX7_next_61 62 rfl 0 rfl rfl ?_
  refine x_aload_n C dX7_next_62 63 rfl 0 rfl rfl ?_
  obtain ⟨v63, hv63, hf⟩ := x_bind hf
  refine x_getI C dX7_next_63 66 rfl hv63 cl7 rfl w290 ?_
  obtain ⟨o66, ho66, hf⟩ := x_bind hf
  obtain ⟨w66, hw66, hf⟩ := x_bind hf
  refine x_callVi C dX7_next_66 69 rfl ho66 cl7.1 rfl (cX7_kindAtc hw66) kX7_kindAt kvX7_kindAt w845 ⟨rfl, rfl⟩ ⟨Nat.le_of_ble_eq_true rfl, Nat.le_of_ble_eq_true rfl⟩ ⟨Nat.zero_le _, Nat.zero_le _⟩ rfl rfl (Nat.le_of_ble_eq_true rfl) ?_
  obtain ⟨σ69, hσ69, hf⟩ := x_bind hf
  refine x_putX C dX7_next_69 72 rfl hσ69 cl7 rfl w289 rfl rfl rfl ?_
  refine x_aload_n C dX7_next_72 73 rfl 0 rfl rfl ?_
  refine x_aload_n C dX7_next_73 74 rfl 0 rfl rfl ?_
  obtain ⟨v74, hv74, hf⟩ := x_bind hf
  refine x_getI C dX7_next_74 77 rfl hv74 cl7 rfl w289 ?_
  refine x_if_ne C dX7_next_77 87 (by decide) 80 rfl (fun hc => ?_) (fun hc => ?_)
  · have hf := (if_neg hc).symm.trans hf
    refine x_aload_n C dX7_next_87 88 rfl 0 rfl rfl ?_
    obtain ⟨v88, hv88, hf⟩ := x_bind hf
    refine x_getI C dX7_next_88 91 rfl hv88 cl7 rfl w290 ?_
    refine x_iconst C dX7_next_91 92 rfl 1 (by decide) ?_
    refine x_iadd C dX7_next_92 93 rfl ?_
    exact jnX7_next_m_93 C hf hE
  · have hf := (if_pos hc).symm.trans hf
    refine x_aload_n C dX7_next_80 81 rfl 0 rfl rfl ?_
    obtain ⟨v81, hv81, hf⟩ := x_bind hf
    refine x_getI C dX7_next_81 84 rfl hv81 cl7 rfl w290 ?_
    refine x_goto C dX7_next_84 93 (by decide) ?_
    exact jnX7_next_m_93 C hf hE
noncomputable def fX7_next (σ : St) (x0 : Nat) : Option (St) :=
(gI σ x0 7 5).bind fun v2 =>
(wrF σ x0 7 4 (.int (v2))).bind fun σ5 =>
(iterP (fLX7_next_8 x0) σ5).bind fun b8 =>
fJX7_next_m_60 b8 x0
set_option maxHeartbeats 4000000 in
set_option maxRecDepth 100000 in
theorem cX7_nextc {l : Launch} {G : xG} {A : Nat → Prop} {σ : St} {x0 : Nat} {c : St} (hf : fX7_next σ x0 = some c) : Con l yX7_next (xws yX7_next cX7_next 1 none) rmX7_next [.ref (x0)] G A σ none c := by
  refine x_start rfl (Nat.le_of_ble_eq_true rfl) (fun X _ _ _ C hE0 => ?_)
  have hE : ∀ r, c = r → xE1 X none r := fun r e => e ▸ hE0
  show V X (0, 0) σ 0 [(0, .ref (x0))] []
  unfold fX7_next at hf
  refine x_aload_n C dX7_next_0 1 rfl 0 rfl rfl ?_
  refine x_aload_n C dX7_next_1 2 rfl 0 rfl rfl ?_
  obtain ⟨v2, hv2, hf⟩ := x_bind hf
  refine x_getI C dX7_next_2 5 rfl hv2 cl7 rfl w292 ?_
  obtain ⟨σ5, hσ5, hf⟩ := x_bind hf
  refine x_putX C dX7_next_5 8 rfl hσ5 cl7 rfl w290 rfl rfl rfl ?_
  obtain ⟨b8, hb8, hf⟩ := x_bind hf
  refine lpX7_next_8 C hb8 (fun s8 e8 => ?_)
  subst e8
  exact jnX7_next_m_60 C hf hE
theorem dX7_number_0 : decode cX7_number 0 = .ok (.iconst 0, 1) := by decide +kernel
theorem dX7_number_1 : decode cX7_number 1 = .ok (.istore_n 1, 1) := by decide +kernel
theorem dX7_number_2 : decode cX7_number 2 = .ok (.aload_n 0, 1) := by decide +kernel
theorem dX7_number_3 : decode cX7_number 3 = .ok (.getfield 25, 3) := by decide +kernel
theorem dX7_number_6 : decode cX7_number 6 = .ok (.istore_n 2, 1) := by decide +kernel
theorem dX7_number_7 : decode cX7_number 7 = .ok (.iload_n 2, 1) := by decide +kernel
theorem dX7_number_8 : decode cX7_number 8 = .ok (.aload_n 0, 1) := by decide +kernel
theorem dX7_number_9 : decode cX7_number 9 = .ok (.getfield 28, 3) := by decide +kernel
theorem dX7_number_12 : decode cX7_number 12 = .ok (.if_icmp .ge 31, 3) := by decide +kernel
theorem dX7_number_15 : decode cX7_number 15 = .ok (.iload_n 1, 1) := by decide +kernel
theorem dX7_number_16 : decode cX7_number 16 = .ok (.sipush 1000, 3) := by decide +kernel
theorem dX7_number_19 : decode cX7_number 19 = .ok (.if_icmp .ge 24, 3) := by decide +kernel
theorem dX7_number_22 : decode cX7_number 22 = .ok (.bipush 10, 2) := by decide +kernel
theorem dX7_number_24 : decode cX7_number 24 = .ok (.iload_n 1, 1) := by decide +kernel
theorem dX7_number_25 : decode cX7_number 25 = .ok (.imul, 1) := by decide +kernel
theorem dX7_number_26 : decode cX7_number 26 = .ok (.aload_n 0, 1) := by decide +kernel
theorem dX7_number_27 : decode cX7_number 27 = .ok (.getfield 31, 3) := by decide +kernel
theorem dX7_number_30 : decode cX7_number 30 = .ok (.iload_n 2, 1) := by decide +kernel
theorem dX7_number_31 : decode cX7_number 31 = .ok (.iaload, 1) := by decide +kernel
theorem dX7_number_32 : decode cX7_number 32 = .ok (.iadd, 1) := by decide +kernel
theorem dX7_number_33 : decode cX7_number 33 = .ok (.bipush 48, 2) := by decide +kernel
theorem dX7_number_35 : decode cX7_number 35 = .ok (.isub, 1) := by decide +kernel
theorem dX7_number_36 : decode cX7_number 36 = .ok (.istore_n 1, 1) := by decide +kernel
theorem dX7_number_37 : decode cX7_number 37 = .ok (.iinc 2 1, 3) := by decide +kernel
theorem dX7_number_40 : decode cX7_number 40 = .ok (.goto (-33), 3) := by decide +kernel
theorem dX7_number_43 : decode cX7_number 43 = .ok (.iload_n 1, 1) := by decide +kernel
theorem dX7_number_44 : decode cX7_number 44 = .ok (.ireturn, 1) := by decide +kernel
abbrev rmX7_number : Room := { frames := 0, cells := 0, slots := 0, locals := 0 }
noncomputable def fLX7_number_7 (σ : St) (x0 : Nat) (a : Int32 × Int32) : Option ((Int32 × Int32) ⊕ (Int32)) :=
(gI σ x0 7 5).bind fun v9 =>
if v9 ≤ a.2 then
(some (Sum.inr a.1))
else
(if ((1000 : Int32)) ≤ a.1 then
(some (Sum.inr a.1))
else
((gR σ x0 7 1).bind fun v27 =>
(aI σ v27 0 a.2).bind fun v31 =>
xlet (((10 * a.1) + v31) - 48) fun v36 =>
xlet (a.2 + 1) fun v37 =>
some (Sum.inl (v36, v37))))
set_option maxHeartbeats 4000000 in
set_option maxRecDepth 100000 in
theorem lpX7_number_7 {X : xX} {σ : St} {x0 : Nat}  {a0 : Int32 × Int32} {b : Int32} (C : Ok X cX7_number 3 RX7 rmX7_number (some .int)) (hb : iterP (fLX7_number_7 σ x0) a0 = some b) (hy0 : ∀ s, b = s → V X (0, 0) σ 43 [(1, .int (s))] []) : V X (0, 0) σ 7 [(0, .ref (x0)), (1, .int (a0.1)), (2, .int (a0.2))] [] := by
  obtain ⟨n, hn⟩ := iterP_some hb
  refine x_loop (P := fun a => V X (0, 0) σ 7 [(0, .ref (x0)), (1, .int (a.1)), (2, .int (a.2))] []) ?_ n a0 hn
  intro a c hf hK hxx
  have hx0 : ∀ s, c = Sum.inr s → V X (0, 0) σ 43 [(1, .int (s))] [] := fun s e => hy0 s (hxx _ e).symm
  unfold fLX7_number_7 at hf
  refine x_iload_n C dX7_number_7 8 rfl 2 rfl rfl ?_
  refine x_aload_n C dX7_number_8 9 rfl 0 rfl rfl ?_
  obtain ⟨v9, hv9, hf⟩ := x_bind hf
  refine x_getI C dX7_number_9 12 rfl hv9 cl7 rfl w292 ?_
  refine x_icmp_ge C dX7_number_12 43 (by decide) 15 rfl (fun hc => ?_) (fun hc => ?_)
  · have hf := (if_pos hc).symm.trans hf
    refine x_lv [1] (lv' := [(1, .int (a.1))]) rfl ?_
    exact hx0 _ (Option.some.inj hf).symm
  · have hf := (if_neg hc).symm.trans hf
    refine x_iload_n C dX7_number_15 16 rfl 1 rfl rfl ?_
    refine x_sipush C dX7_number_16 19 rfl 1000 (by decide) ?_
    refine x_icmp_ge C dX7_number_19 43 (by decide) 22 rfl (fun hc => ?_) (fun hc => ?_)
    · have hf := (if_pos hc).symm.trans hf
      refine x_lv [1] (lv' := [(1, .int (a.1))]) rfl ?_
      exact hx0 _ (Option.some.inj hf).symm
    · have hf := (if_neg hc).symm.trans hf
      refine x_bipush C dX7_number_22 24 rfl 10 (by decide) ?_
      refine x_iload_n C dX7_number_24 25 rfl 1 rfl rfl ?_
      refine x_imul C dX7_number_25 26 rfl ?_
      refine x_aload_n C dX7_number_26 27 rfl 0 rfl rfl ?_
      obtain ⟨v27, hv27, hf⟩ := x_bind hf
      refine x_getR C dX7_number_27 30 rfl hv27 cl7 rfl w287 ?_
      refine x_iload_n C dX7_number_30 31 rfl 2 rfl rfl ?_
      obtain ⟨v31, hv31, hf⟩ := x_bind hf
      refine x_iaload C dX7_number_31 32 rfl hv31 ?_
      refine x_iadd C dX7_number_32 33 rfl ?_
      refine x_bipush C dX7_number_33 35 rfl 48 (by decide) ?_
      refine x_isub C dX7_number_35 36 rfl ?_
      obtain ⟨v36, ev36, hf⟩ := xlet_some hf
      refine x_topi ev36 ?_
      refine x_istore_n C dX7_number_36 37 rfl rfl rfl [(1, .int (v36)), (0, .ref (x0)), (2, .int (a.2))] rfl ?_
      obtain ⟨v37, ev37, hf⟩ := xlet_some hf
      refine x_iinc C dX7_number_37 40 rfl 2 rfl v37 ev37 rfl [(2, .int (v37)), (1, .int (v36)), (0, .ref (x0))] rfl ?_
      refine x_goto C dX7_number_40 7 (by decide) ?_
      refine x_lv [2, 1, 0] (lv' := [(0, .ref (x0)), (1, .int (v36)), (2, .int (v37))]) rfl ?_
      exact hK _ (Option.some.inj hf).symm
noncomputable def fX7_number (σ : St) (x0 : Nat) : Option (Int32) :=
(gI σ x0 7 4).bind fun v3 =>
(iterP (fLX7_number_7 σ x0) (0, v3)).bind fun b7 =>
some b7
set_option maxHeartbeats 4000000 in
set_option maxRecDepth 100000 in
theorem cX7_numberc {l : Launch} {G : xG} {A : Nat → Prop} {σ : St} {x0 : Nat} {c : Int32} (hf : fX7_number σ x0 = some c) : Con l yX7_number (xws yX7_number cX7_number 3 (some .int)) rmX7_number [.ref (x0)] G A σ (some (.int c)) σ := by
  refine x_start rfl (Nat.le_of_ble_eq_true rfl) (fun X _ _ _ C hE0 => ?_)
  have hE : ∀ r, c = r → xE1 X (some (.int r)) σ := fun r e => e ▸ hE0
  show V X (0, 0) σ 0 [(0, .ref (x0))] []
  unfold fX7_number at hf
  refine x_iconst C dX7_number_0 1 rfl 0 (by decide) ?_
  refine x_istore_n C dX7_number_1 2 rfl rfl rfl [(1, .int (0)), (0, .ref (x0))] rfl ?_
  refine x_aload_n C dX7_number_2 3 rfl 1 rfl rfl ?_
  obtain ⟨v3, hv3, hf⟩ := x_bind hf
  refine x_getI C dX7_number_3 6 rfl hv3 cl7 rfl w290 ?_
  refine x_istore_n C dX7_number_6 7 rfl rfl rfl [(2, .int (v3)), (1, .int (0)), (0, .ref (x0))] rfl ?_
  obtain ⟨b7, hb7, hf⟩ := x_bind hf
  refine x_lv [2, 1, 0] (lv' := [(0, .ref (x0)), (1, .int (0)), (2, .int (v3))]) rfl ?_
  refine lpX7_number_7 C hb7 (fun s7 e7 => ?_)
  subst e7
  refine x_iload_n C dX7_number_43 44 rfl 0 rfl rfl ?_
  exact x_iret C (hE _ (Option.some.inj hf).symm) dX7_number_44
theorem dX7_numberFault_0 : decode cX7_numberFault 0 = .ok (.aload_n 0, 1) := by decide +kernel
theorem dX7_numberFault_1 : decode cX7_numberFault 1 = .ok (.getfield 22, 3) := by decide +kernel
theorem dX7_numberFault_4 : decode cX7_numberFault 4 = .ok (.iconst 2, 1) := by decide +kernel
theorem dX7_numberFault_5 : decode cX7_numberFault 5 = .ok (.if_icmp .eq 5, 3) := by decide +kernel
theorem dX7_numberFault_8 : decode cX7_numberFault 8 = .ok (.iconst 1, 1) := by decide +kernel
theorem dX7_numberFault_9 : decode cX7_numberFault 9 = .ok (.ireturn, 1) := by decide +kernel
theorem dX7_numberFault_10 : decode cX7_numberFault 10 = .ok (.aload_n 0, 1) := by decide +kernel
theorem dX7_numberFault_11 : decode cX7_numberFault 11 = .ok (.invokevirtual 59, 3) := by decide +kernel
theorem dX7_numberFault_14 : decode cX7_numberFault 14 = .ok (.istore_n 2, 1) := by decide +kernel
theorem dX7_numberFault_15 : decode cX7_numberFault 15 = .ok (.iload_n 2, 1) := by decide +kernel
theorem dX7_numberFault_16 : decode cX7_numberFault 16 = .ok (.iconst 1, 1) := by decide +kernel
theorem dX7_numberFault_17 : decode cX7_numberFault 17 = .ok (.if_icmp .lt 8, 3) := by decide +kernel
theorem dX7_numberFault_20 : decode cX7_numberFault 20 = .ok (.iload_n 2, 1) := by decide +kernel
theorem dX7_numberFault_21 : decode cX7_numberFault 21 = .ok (.iload_n 1, 1) := by decide +kernel
theorem dX7_numberFault_22 : decode cX7_numberFault 22 = .ok (.if_icmp .le 7, 3) := by decide +kernel
theorem dX7_numberFault_25 : decode cX7_numberFault 25 = .ok (.iconst 2, 1) := by decide +kernel
theorem dX7_numberFault_26 : decode cX7_numberFault 26 = .ok (.goto 4, 3) := by decide +kernel
theorem dX7_numberFault_29 : decode cX7_numberFault 29 = .ok (.iconst 0, 1) := by decide +kernel
theorem dX7_numberFault_30 : decode cX7_numberFault 30 = .ok (.ireturn, 1) := by decide +kernel
abbrev rmX7_numberFault : Room := { frames := 1, cells := 0, slots := 0, locals := 22 }
noncomputable def fX7_numberFault (σ : St) (x0 : Nat) (x1 : Int32) : Option (Int32) :=
(gI σ x0 7 3).bind fun v1 =>
if v1 = ((2 : Int32)) then
((isO σ x0 7).bind fun _ =>
(fX7_number σ x0).bind fun w11 =>
if w11 < ((1 : Int32)) then
(some 2)
else
(if w11 ≤ x1 then
(some 0)
else
(some 2)))
else
(some 1)
set_option maxHeartbeats 4000000 in
set_option maxRecDepth 100000 in
theorem cX7_numberFaultc {l : Launch} {G : xG} {A : Nat → Prop} {σ : St} {x0 : Nat} {x1 : Int32} {c : Int32} (hf : fX7_numberFault σ x0 x1 = some c) : Con l yX7_numberFault (xws yX7_numberFault cX7_numberFault 3 (some .int)) rmX7_numberFault [.ref (x0), .int (x1)] G A σ (some (.int c)) σ := by
  refine x_start rfl (Nat.le_of_ble_eq_true rfl) (fun X _ _ _ C hE0 => ?_)
  have hE : ∀ r, c = r → xE1 X (some (.int r)) σ := fun r e => e ▸ hE0
  show V X (0, 0) σ 0 [(0, .ref (x0)), (1, .int (x1))] []
  unfold fX7_numberFault at hf
  refine x_aload_n C dX7_numberFault_0 1 rfl 0 rfl rfl ?_
  obtain ⟨v1, hv1, hf⟩ := x_bind hf
  refine x_getI C dX7_numberFault_1 4 rfl hv1 cl7 rfl w289 ?_
  refine x_iconst C dX7_numberFault_4 5 rfl 2 (by decide) ?_
  refine x_icmp_eq C dX7_numberFault_5 10 (by decide) 8 rfl (fun hc => ?_) (fun hc => ?_)
  · have hf := (if_pos hc).symm.trans hf
    refine x_aload_n C dX7_numberFault_10 11 rfl 0 rfl rfl ?_
    obtain ⟨o11, ho11, hf⟩ := x_bind hf
    obtain ⟨w11, hw11, hf⟩ := x_bind hf
    refine x_callVi C dX7_numberFault_11 14 rfl ho11 cl7.1 rfl (cX7_numberc hw11) kX7_number kvX7_number w906 ⟨rfl, rfl⟩ ⟨Nat.le_of_ble_eq_true rfl, Nat.le_of_ble_eq_true rfl⟩ ⟨Nat.zero_le _, Nat.zero_le _⟩ rfl rfl (Nat.le_of_ble_eq_true rfl) ?_
    refine x_istore_n C dX7_numberFault_14 15 rfl rfl rfl [(2, .int (w11)), (0, .ref (x0)), (1, .int (x1))] rfl ?_
    refine x_iload_n C dX7_numberFault_15 16 rfl 0 rfl rfl ?_
    refine x_iconst C dX7_numberFault_16 17 rfl 1 (by decide) ?_
    refine x_icmp_lt C dX7_numberFault_17 25 (by decide) 20 rfl (fun hc => ?_) (fun hc => ?_)
    · have hf := (if_pos hc).symm.trans hf
      refine x_iconst C dX7_numberFault_25 26 rfl 2 (by decide) ?_
      refine x_goto C dX7_numberFault_26 30 (by decide) ?_
      exact x_iret C (hE _ (Option.some.inj hf).symm) dX7_numberFault_30
    · have hf := (if_neg hc).symm.trans hf
      refine x_iload_n C dX7_numberFault_20 21 rfl 0 rfl rfl ?_
      refine x_iload_n C dX7_numberFault_21 22 rfl 2 rfl rfl ?_
      refine x_icmp_le C dX7_numberFault_22 29 (by decide) 25 rfl (fun hc => ?_) (fun hc => ?_)
      · have hf := (if_pos hc).symm.trans hf
        refine x_iconst C dX7_numberFault_29 30 rfl 0 (by decide) ?_
        exact x_iret C (hE _ (Option.some.inj hf).symm) dX7_numberFault_30
      · have hf := (if_neg hc).symm.trans hf
        refine x_iconst C dX7_numberFault_25 26 rfl 2 (by decide) ?_
        refine x_goto C dX7_numberFault_26 30 (by decide) ?_
        exact x_iret C (hE _ (Option.some.inj hf).symm) dX7_numberFault_30
  · have hf := (if_neg hc).symm.trans hf
    refine x_iconst C dX7_numberFault_8 9 rfl 1 (by decide) ?_
    exact x_iret C (hE _ (Option.some.inj hf).symm) dX7_numberFault_9
