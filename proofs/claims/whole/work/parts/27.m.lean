/-! methods: X1_stateOf X1_gatherStates X1_isLeft X1_nextOf X1_linkStates X1_readOneLetter X1_countOf X2_addStep X2_codeAt X2_emptyPlaces -/
theorem dX1_stateOf_0 : decode cX1_stateOf 0 = .ok (.iconst 0, 1) := by decide +kernel
theorem dX1_stateOf_1 : decode cX1_stateOf 1 = .ok (.istore_n 3, 1) := by decide +kernel
theorem dX1_stateOf_2 : decode cX1_stateOf 2 = .ok (.iload_n 3, 1) := by decide +kernel
theorem dX1_stateOf_3 : decode cX1_stateOf 3 = .ok (.aload_n 0, 1) := by decide +kernel
theorem dX1_stateOf_4 : decode cX1_stateOf 4 = .ok (.getfield 15, 3) := by decide +kernel
theorem dX1_stateOf_7 : decode cX1_stateOf 7 = .ok (.if_icmp .ge 22, 3) := by decide +kernel
theorem dX1_stateOf_10 : decode cX1_stateOf 10 = .ok (.aload_n 0, 1) := by decide +kernel
theorem dX1_stateOf_11 : decode cX1_stateOf 11 = .ok (.getfield 11, 3) := by decide +kernel
theorem dX1_stateOf_14 : decode cX1_stateOf 14 = .ok (.iload_n 3, 1) := by decide +kernel
theorem dX1_stateOf_15 : decode cX1_stateOf 15 = .ok (.laload, 1) := by decide +kernel
theorem dX1_stateOf_16 : decode cX1_stateOf 16 = .ok (.lload_n 1, 1) := by decide +kernel
theorem dX1_stateOf_17 : decode cX1_stateOf 17 = .ok (.lcmp, 1) := by decide +kernel
theorem dX1_stateOf_18 : decode cX1_stateOf 18 = .ok (.ifCond .ne 5, 3) := by decide +kernel
theorem dX1_stateOf_21 : decode cX1_stateOf 21 = .ok (.iload_n 3, 1) := by decide +kernel
theorem dX1_stateOf_22 : decode cX1_stateOf 22 = .ok (.ireturn, 1) := by decide +kernel
theorem dX1_stateOf_23 : decode cX1_stateOf 23 = .ok (.iinc 3 1, 3) := by decide +kernel
theorem dX1_stateOf_26 : decode cX1_stateOf 26 = .ok (.goto (-24), 3) := by decide +kernel
theorem dX1_stateOf_29 : decode cX1_stateOf 29 = .ok (.iconst (-1), 1) := by decide +kernel
theorem dX1_stateOf_30 : decode cX1_stateOf 30 = .ok (.ireturn, 1) := by decide +kernel
abbrev rmX1_stateOf : Room := { frames := 0, cells := 0, slots := 0, locals := 0 }
noncomputable def fLX1_stateOf_2 (σ : St) (x0 : Nat) (x1 : Int64) (a : Int32) : Option ((Int32) ⊕ ((Int32) ⊕ (Unit))) :=
(gI σ x0 1 2).bind fun v4 =>
if v4 ≤ a then
(some (Sum.inr (Sum.inr ())))
else
((gR σ x0 1 1).bind fun v11 =>
(aL σ v11 a).bind fun v15 =>
if (lg_cmp v15 x1) = 0 then
(some (Sum.inr (Sum.inl a)))
else
(xlet (a + 1) fun v23 =>
some (Sum.inl v23)))
set_option maxHeartbeats 4000000 in
set_option maxRecDepth 100000 in
theorem lpX1_stateOf_2 {X : xX} {σ : St} {x0 : Nat} {x1 : Int64}  {a0 : Int32} {b : (Int32) ⊕ (Unit)} (C : Ok X cX1_stateOf 4 RX1 rmX1_stateOf (some .int)) (hb : iterP (fLX1_stateOf_2 σ x0 x1) a0 = some b) (hy0 : ∀ s, b = (Sum.inl s) → V X (0, 0) σ 21 [(3, .int (s))] []) (hy1 : ∀ s, b = (Sum.inr s) → V X (0, 0) σ 29 [] []) : V X (0, 0) σ 2 [(0, .ref (x0)), (1, .long (x1)), (3, .int (a0))] [] := by
  obtain ⟨n, hn⟩ := iterP_some hb
  refine x_loop (P := fun a => V X (0, 0) σ 2 [(0, .ref (x0)), (1, .long (x1)), (3, .int (a))] []) ?_ n a0 hn
  intro a c hf hK hxx
  have hx0 : ∀ s, c = Sum.inr (Sum.inl s) → V X (0, 0) σ 21 [(3, .int (s))] [] := fun s e => hy0 s (hxx _ e).symm
  have hx1 : ∀ s, c = Sum.inr (Sum.inr s) → V X (0, 0) σ 29 [] [] := fun s e => hy1 s (hxx _ e).symm
  unfold fLX1_stateOf_2 at hf
  refine x_iload_n C dX1_stateOf_2 3 rfl 2 rfl rfl ?_
  refine x_aload_n C dX1_stateOf_3 4 rfl 0 rfl rfl ?_
  obtain ⟨v4, hv4, hf⟩ := x_bind hf
  refine x_getI C dX1_stateOf_4 7 rfl hv4 cl1 rfl w413 ?_
  refine x_icmp_ge C dX1_stateOf_7 29 (by decide) 10 rfl (fun hc => ?_) (fun hc => ?_)
  · have hf := (if_pos hc).symm.trans hf
    refine x_lv [] (lv' := []) rfl ?_
    exact hx1 _ (Option.some.inj hf).symm
  · have hf := (if_neg hc).symm.trans hf
    refine x_aload_n C dX1_stateOf_10 11 rfl 0 rfl rfl ?_
    obtain ⟨v11, hv11, hf⟩ := x_bind hf
    refine x_getR C dX1_stateOf_11 14 rfl hv11 cl1 rfl w412 ?_
    refine x_iload_n C dX1_stateOf_14 15 rfl 2 rfl rfl ?_
    obtain ⟨v15, hv15, hf⟩ := x_bind hf
    refine x_laload C dX1_stateOf_15 16 rfl hv15 ?_
    refine x_lload_n C dX1_stateOf_16 17 rfl 1 rfl rfl ?_
    refine x_lcmp C dX1_stateOf_17 18 rfl ?_
    refine x_if_ne C dX1_stateOf_18 23 (by decide) 21 rfl (fun hc => ?_) (fun hc => ?_)
    · have hf := (if_neg hc).symm.trans hf
      obtain ⟨v23, ev23, hf⟩ := xlet_some hf
      refine x_iinc C dX1_stateOf_23 26 rfl 2 rfl v23 ev23 rfl [(3, .int (v23)), (0, .ref (x0)), (1, .long (x1))] rfl ?_
      refine x_goto C dX1_stateOf_26 2 (by decide) ?_
      refine x_lv [1, 2, 0] (lv' := [(0, .ref (x0)), (1, .long (x1)), (3, .int (v23))]) rfl ?_
      exact hK _ (Option.some.inj hf).symm
    · have hf := (if_pos hc).symm.trans hf
      refine x_lv [2] (lv' := [(3, .int (a))]) rfl ?_
      exact hx0 _ (Option.some.inj hf).symm
noncomputable def fX1_stateOf (σ : St) (x0 : Nat) (x1 : Int64) : Option (Int32) :=
(iterP (fLX1_stateOf_2 σ x0 x1) 0).bind fun b2 =>
(match b2 with
| .inl s2 =>
some s2
| .inr s2 =>
some (-1))
set_option maxHeartbeats 4000000 in
set_option maxRecDepth 100000 in
theorem cX1_stateOfc {l : Launch} {G : xG} {A : Nat → Prop} {σ : St} {x0 : Nat} {x1 : Int64} {c : Int32} (hf : fX1_stateOf σ x0 x1 = some c) : Con l yX1_stateOf (xws yX1_stateOf cX1_stateOf 4 (some .int)) rmX1_stateOf [.ref (x0), .long (x1)] G A σ (some (.int c)) σ := by
  refine x_start rfl (Nat.le_of_ble_eq_true rfl) (fun X _ _ _ C hE0 => ?_)
  have hE : ∀ r, c = r → xE1 X (some (.int r)) σ := fun r e => e ▸ hE0
  show V X (0, 0) σ 0 [(0, .ref (x0)), (1, .long (x1))] []
  unfold fX1_stateOf at hf
  refine x_iconst C dX1_stateOf_0 1 rfl 0 (by decide) ?_
  refine x_istore_n C dX1_stateOf_1 2 rfl rfl rfl [(3, .int (0)), (0, .ref (x0)), (1, .long (x1))] rfl ?_
  obtain ⟨b2, hb2, hf⟩ := x_bind hf
  refine x_lv [1, 2, 0] (lv' := [(0, .ref (x0)), (1, .long (x1)), (3, .int (0))]) rfl ?_
  refine lpX1_stateOf_2 C hb2 (fun s2 e2 => ?_) (fun s2 e2 => ?_)
  · subst e2
    try dsimp only at hf
    refine x_iload_n C dX1_stateOf_21 22 rfl 0 rfl rfl ?_
    exact x_iret C (hE _ (Option.some.inj hf).symm) dX1_stateOf_22
  · subst e2
    try dsimp only at hf
    refine x_iconst C dX1_stateOf_29 30 rfl (-1) (by decide) ?_
    exact x_iret C (hE _ (Option.some.inj hf).symm) dX1_stateOf_30
theorem dX1_gatherStates_0 : decode cX1_gatherStates 0 = .ok (.aload_n 0, 1) := by decide +kernel
theorem dX1_gatherStates_1 : decode cX1_gatherStates 1 = .ok (.getfield 11, 3) := by decide +kernel
theorem dX1_gatherStates_4 : decode cX1_gatherStates 4 = .ok (.iconst 0, 1) := by decide +kernel
theorem dX1_gatherStates_5 : decode cX1_gatherStates 5 = .ok (.lconst 0, 1) := by decide +kernel
theorem dX1_gatherStates_6 : decode cX1_gatherStates 6 = .ok (.lastore, 1) := by decide +kernel
theorem dX1_gatherStates_7 : decode cX1_gatherStates 7 = .ok (.aload_n 0, 1) := by decide +kernel
theorem dX1_gatherStates_8 : decode cX1_gatherStates 8 = .ok (.iconst 1, 1) := by decide +kernel
theorem dX1_gatherStates_9 : decode cX1_gatherStates 9 = .ok (.putfield 15, 3) := by decide +kernel
theorem dX1_gatherStates_12 : decode cX1_gatherStates 12 = .ok (.iconst 0, 1) := by decide +kernel
theorem dX1_gatherStates_13 : decode cX1_gatherStates 13 = .ok (.istore_n 1, 1) := by decide +kernel
theorem dX1_gatherStates_14 : decode cX1_gatherStates 14 = .ok (.iload_n 1, 1) := by decide +kernel
theorem dX1_gatherStates_15 : decode cX1_gatherStates 15 = .ok (.aload_n 0, 1) := by decide +kernel
theorem dX1_gatherStates_16 : decode cX1_gatherStates 16 = .ok (.getfield 29, 3) := by decide +kernel
theorem dX1_gatherStates_19 : decode cX1_gatherStates 19 = .ok (.getfield 48, 3) := by decide +kernel
theorem dX1_gatherStates_22 : decode cX1_gatherStates 22 = .ok (.if_icmp .ge 97, 3) := by decide +kernel
theorem dX1_gatherStates_25 : decode cX1_gatherStates 25 = .ok (.aload_n 0, 1) := by decide +kernel
theorem dX1_gatherStates_26 : decode cX1_gatherStates 26 = .ok (.getfield 29, 3) := by decide +kernel
theorem dX1_gatherStates_29 : decode cX1_gatherStates 29 = .ok (.getfield 51, 3) := by decide +kernel
theorem dX1_gatherStates_32 : decode cX1_gatherStates 32 = .ok (.iload_n 1, 1) := by decide +kernel
theorem dX1_gatherStates_33 : decode cX1_gatherStates 33 = .ok (.laload, 1) := by decide +kernel
theorem dX1_gatherStates_34 : decode cX1_gatherStates 34 = .ok (.invokestatic 54, 3) := by decide +kernel
theorem dX1_gatherStates_37 : decode cX1_gatherStates 37 = .ok (.istore_n 2, 1) := by decide +kernel
theorem dX1_gatherStates_38 : decode cX1_gatherStates 38 = .ok (.iconst 1, 1) := by decide +kernel
theorem dX1_gatherStates_39 : decode cX1_gatherStates 39 = .ok (.istore_n 3, 1) := by decide +kernel
theorem dX1_gatherStates_40 : decode cX1_gatherStates 40 = .ok (.iload_n 3, 1) := by decide +kernel
theorem dX1_gatherStates_41 : decode cX1_gatherStates 41 = .ok (.iload_n 2, 1) := by decide +kernel
theorem dX1_gatherStates_42 : decode cX1_gatherStates 42 = .ok (.if_icmp .ge 71, 3) := by decide +kernel
theorem dX1_gatherStates_45 : decode cX1_gatherStates 45 = .ok (.iload_n 2, 1) := by decide +kernel
theorem dX1_gatherStates_46 : decode cX1_gatherStates 46 = .ok (.bipush 8, 2) := by decide +kernel
theorem dX1_gatherStates_48 : decode cX1_gatherStates 48 = .ok (.if_icmp .gt 65, 3) := by decide +kernel
theorem dX1_gatherStates_51 : decode cX1_gatherStates 51 = .ok (.aload_n 0, 1) := by decide +kernel
theorem dX1_gatherStates_52 : decode cX1_gatherStates 52 = .ok (.getfield 29, 3) := by decide +kernel
theorem dX1_gatherStates_55 : decode cX1_gatherStates 55 = .ok (.getfield 51, 3) := by decide +kernel
theorem dX1_gatherStates_58 : decode cX1_gatherStates 58 = .ok (.iload_n 1, 1) := by decide +kernel
theorem dX1_gatherStates_59 : decode cX1_gatherStates 59 = .ok (.laload, 1) := by decide +kernel
theorem dX1_gatherStates_60 : decode cX1_gatherStates 60 = .ok (.iconst 0, 1) := by decide +kernel
theorem dX1_gatherStates_61 : decode cX1_gatherStates 61 = .ok (.iload_n 3, 1) := by decide +kernel
theorem dX1_gatherStates_62 : decode cX1_gatherStates 62 = .ok (.invokestatic 60, 3) := by decide +kernel
theorem dX1_gatherStates_65 : decode cX1_gatherStates 65 = .ok (.lstore 4, 2) := by decide +kernel
theorem dX1_gatherStates_67 : decode cX1_gatherStates 67 = .ok (.aload_n 0, 1) := by decide +kernel
theorem dX1_gatherStates_68 : decode cX1_gatherStates 68 = .ok (.lload 4, 2) := by decide +kernel
theorem dX1_gatherStates_70 : decode cX1_gatherStates 70 = .ok (.invokevirtual 64, 3) := by decide +kernel
theorem dX1_gatherStates_73 : decode cX1_gatherStates 73 = .ok (.iconst (-1), 1) := by decide +kernel
theorem dX1_gatherStates_74 : decode cX1_gatherStates 74 = .ok (.if_icmp .ne 33, 3) := by decide +kernel
theorem dX1_gatherStates_77 : decode cX1_gatherStates 77 = .ok (.aload_n 0, 1) := by decide +kernel
theorem dX1_gatherStates_78 : decode cX1_gatherStates 78 = .ok (.getfield 15, 3) := by decide +kernel
theorem dX1_gatherStates_81 : decode cX1_gatherStates 81 = .ok (.bipush 85, 2) := by decide +kernel
theorem dX1_gatherStates_83 : decode cX1_gatherStates 83 = .ok (.if_icmp .ge 24, 3) := by decide +kernel
theorem dX1_gatherStates_86 : decode cX1_gatherStates 86 = .ok (.aload_n 0, 1) := by decide +kernel
theorem dX1_gatherStates_87 : decode cX1_gatherStates 87 = .ok (.getfield 11, 3) := by decide +kernel
theorem dX1_gatherStates_90 : decode cX1_gatherStates 90 = .ok (.aload_n 0, 1) := by decide +kernel
theorem dX1_gatherStates_91 : decode cX1_gatherStates 91 = .ok (.getfield 15, 3) := by decide +kernel
theorem dX1_gatherStates_94 : decode cX1_gatherStates 94 = .ok (.lload 4, 2) := by decide +kernel
theorem dX1_gatherStates_96 : decode cX1_gatherStates 96 = .ok (.lastore, 1) := by decide +kernel
theorem dX1_gatherStates_97 : decode cX1_gatherStates 97 = .ok (.aload_n 0, 1) := by decide +kernel
theorem dX1_gatherStates_98 : decode cX1_gatherStates 98 = .ok (.dup, 1) := by decide +kernel
theorem dX1_gatherStates_99 : decode cX1_gatherStates 99 = .ok (.getfield 15, 3) := by decide +kernel
theorem dX1_gatherStates_102 : decode cX1_gatherStates 102 = .ok (.iconst 1, 1) := by decide +kernel
theorem dX1_gatherStates_103 : decode cX1_gatherStates 103 = .ok (.iadd, 1) := by decide +kernel
theorem dX1_gatherStates_104 : decode cX1_gatherStates 104 = .ok (.putfield 15, 3) := by decide +kernel
theorem dX1_gatherStates_107 : decode cX1_gatherStates 107 = .ok (.iinc 3 1, 3) := by decide +kernel
theorem dX1_gatherStates_110 : decode cX1_gatherStates 110 = .ok (.goto (-70), 3) := by decide +kernel
theorem dX1_gatherStates_113 : decode cX1_gatherStates 113 = .ok (.iinc 1 1, 3) := by decide +kernel
theorem dX1_gatherStates_116 : decode cX1_gatherStates 116 = .ok (.goto (-102), 3) := by decide +kernel
theorem dX1_gatherStates_119 : decode cX1_gatherStates 119 = .ok (.return_, 1) := by decide +kernel
abbrev rmX1_gatherStates : Room := { frames := 1, cells := 0, slots := 0, locals := 25 }
noncomputable def fLX1_gatherStates_40 (x0 : Nat) (x1 : Int32) (x2 : Int32) (a : Int32 × St) : Option ((Int32 × St) ⊕ (St)) :=
if x2 ≤ a.1 then
(some (Sum.inr a.2))
else
(if ((8 : Int32)) < x2 then
(some (Sum.inr a.2))
else
((gR a.2 x0 1 0).bind fun v52 =>
(gR a.2 v52 8 2).bind fun v55 =>
(aL a.2 v55 x1).bind fun v59 =>
(fX10_part v59 0 a.1).bind fun w62 =>
(isO a.2 x0 1).bind fun _ =>
(fX1_stateOf a.2 x0 w62).bind fun w70 =>
if w70 = (((-1) : Int32)) then
((gI a.2 x0 1 2).bind fun v78 =>
if ((85 : Int32)) ≤ v78 then
(xlet (a.1 + 1) fun v107 =>
some (Sum.inl (v107, a.2)))
else
((gR a.2 x0 1 1).bind fun v87 =>
(gI a.2 x0 1 2).bind fun v91 =>
(sL a.2 v87 v91 w62).bind fun σ96 =>
(gI σ96 x0 1 2).bind fun v99 =>
(wrF σ96 x0 1 2 (.int (v99 + 1))).bind fun σ104 =>
xlet (a.1 + 1) fun v107 =>
some (Sum.inl (v107, σ104))))
else
(xlet (a.1 + 1) fun v107 =>
some (Sum.inl (v107, a.2)))))
set_option maxHeartbeats 4000000 in
set_option maxRecDepth 100000 in
theorem lpX1_gatherStates_40 {X : xX} {x0 : Nat} {x1 : Int32} {x2 : Int32}  {a0 : Int32 × St} {b : St} (C : Ok X cX1_gatherStates 6 RX1 rmX1_gatherStates none) (hb : iterP (fLX1_gatherStates_40 x0 x1 x2) a0 = some b) (hy0 : ∀ s, b = s → V X (0, 0) s 113 [(0, .ref (x0)), (1, .int (x1))] []) : V X (0, 0) a0.2 40 [(0, .ref (x0)), (1, .int (x1)), (2, .int (x2)), (3, .int (a0.1))] [] := by
  obtain ⟨n, hn⟩ := iterP_some hb
  refine x_loop (P := fun a => V X (0, 0) a.2 40 [(0, .ref (x0)), (1, .int (x1)), (2, .int (x2)), (3, .int (a.1))] []) ?_ n a0 hn
  intro a c hf hK hxx
  have hx0 : ∀ s, c = Sum.inr s → V X (0, 0) s 113 [(0, .ref (x0)), (1, .int (x1))] [] := fun s e => hy0 s (hxx _ e).symm
  unfold fLX1_gatherStates_40 at hf
  refine x_iload_n C dX1_gatherStates_40 41 rfl 3 rfl rfl ?_
  refine x_iload_n C dX1_gatherStates_41 42 rfl 2 rfl rfl ?_
  refine x_icmp_ge C dX1_gatherStates_42 113 (by decide) 45 rfl (fun hc => ?_) (fun hc => ?_)
  · have hf := (if_pos hc).symm.trans hf
    refine x_lv [0, 1] (lv' := [(0, .ref (x0)), (1, .int (x1))]) rfl ?_
    exact hx0 _ (Option.some.inj hf).symm
  · have hf := (if_neg hc).symm.trans hf
    refine x_iload_n C dX1_gatherStates_45 46 rfl 2 rfl rfl ?_
    refine x_bipush C dX1_gatherStates_46 48 rfl 8 (by decide) ?_
    refine x_icmp_gt C dX1_gatherStates_48 113 (by decide) 51 rfl (fun hc => ?_) (fun hc => ?_)
    · have hf := (if_pos hc).symm.trans hf
      refine x_lv [0, 1] (lv' := [(0, .ref (x0)), (1, .int (x1))]) rfl ?_
      exact hx0 _ (Option.some.inj hf).symm
    · have hf := (if_neg hc).symm.trans hf
      refine x_aload_n C dX1_gatherStates_51 52 rfl 0 rfl rfl ?_
      obtain ⟨v52, hv52, hf⟩ := x_bind hf
      refine x_getR C dX1_gatherStates_52 55 rfl hv52 cl1 rfl w411 ?_
      obtain ⟨v55, hv55, hf⟩ := x_bind hf
      refine x_getR C dX1_gatherStates_55 58 rfl hv55 cl8 rfl w191 ?_
      refine x_iload_n C dX1_gatherStates_58 59 rfl 1 rfl rfl ?_
      obtain ⟨v59, hv59, hf⟩ := x_bind hf
      refine x_laload C dX1_gatherStates_59 60 rfl hv59 ?_
      refine x_iconst C dX1_gatherStates_60 61 rfl 0 (by decide) ?_
      refine x_iload_n C dX1_gatherStates_61 62 rfl 3 rfl rfl ?_
      obtain ⟨w62, hw62, hf⟩ := x_bind hf
      refine x_callSl C dX1_gatherStates_62 65 rfl (cX10_partc hw62) kX10_part ksX10_part w1374 ⟨rfl, rfl⟩ ⟨Nat.le_of_ble_eq_true rfl, Nat.le_of_ble_eq_true rfl⟩ ⟨Nat.zero_le _, Nat.zero_le _⟩ rfl rfl (Nat.le_of_ble_eq_true rfl) ?_
      refine x_lstore C dX1_gatherStates_65 67 rfl rfl [(4, .long (w62)), (0, .ref (x0)), (1, .int (x1)), (2, .int (x2)), (3, .int (a.1))] rfl ?_
      refine x_aload_n C dX1_gatherStates_67 68 rfl 1 rfl rfl ?_
      refine x_lload C dX1_gatherStates_68 70 rfl 0 rfl ?_
      obtain ⟨o70, ho70, hf⟩ := x_bind hf
      obtain ⟨w70, hw70, hf⟩ := x_bind hf
      refine x_callVi C dX1_gatherStates_70 73 rfl ho70 cl1.1 rfl (cX1_stateOfc hw70) kX1_stateOf kvX1_stateOf w1375 ⟨rfl, rfl⟩ ⟨Nat.le_of_ble_eq_true rfl, Nat.le_of_ble_eq_true rfl⟩ ⟨Nat.zero_le _, Nat.zero_le _⟩ rfl rfl (Nat.le_of_ble_eq_true rfl) ?_
      refine x_iconst C dX1_gatherStates_73 74 rfl (-1) (by decide) ?_
      refine x_icmp_ne C dX1_gatherStates_74 107 (by decide) 77 rfl (fun hc => ?_) (fun hc => ?_)
      · have hf := (if_neg hc).symm.trans hf
        obtain ⟨v107, ev107, hf⟩ := xlet_some hf
        refine x_iinc C dX1_gatherStates_107 110 rfl 4 rfl v107 ev107 rfl [(3, .int (v107)), (4, .long (w62)), (0, .ref (x0)), (1, .int (x1)), (2, .int (x2))] rfl ?_
        refine x_goto C dX1_gatherStates_110 40 (by decide) ?_
        refine x_lv [2, 3, 4, 0] (lv' := [(0, .ref (x0)), (1, .int (x1)), (2, .int (x2)), (3, .int (v107))]) rfl ?_
        exact hK _ (Option.some.inj hf).symm
      · have hf := (if_pos hc).symm.trans hf
        refine x_aload_n C dX1_gatherStates_77 78 rfl 1 rfl rfl ?_
        obtain ⟨v78, hv78, hf⟩ := x_bind hf
        refine x_getI C dX1_gatherStates_78 81 rfl hv78 cl1 rfl w413 ?_
        refine x_bipush C dX1_gatherStates_81 83 rfl 85 (by decide) ?_
        refine x_icmp_ge C dX1_gatherStates_83 107 (by decide) 86 rfl (fun hc => ?_) (fun hc => ?_)
        · have hf := (if_pos hc).symm.trans hf
          obtain ⟨v107, ev107, hf⟩ := xlet_some hf
          refine x_iinc C dX1_gatherStates_107 110 rfl 4 rfl v107 ev107 rfl [(3, .int (v107)), (4, .long (w62)), (0, .ref (x0)), (1, .int (x1)), (2, .int (x2))] rfl ?_
          refine x_goto C dX1_gatherStates_110 40 (by decide) ?_
          refine x_lv [2, 3, 4, 0] (lv' := [(0, .ref (x0)), (1, .int (x1)), (2, .int (x2)), (3, .int (v107))]) rfl ?_
          exact hK _ (Option.some.inj hf).symm
        · have hf := (if_neg hc).symm.trans hf
          refine x_aload_n C dX1_gatherStates_86 87 rfl 1 rfl rfl ?_
          obtain ⟨v87, hv87, hf⟩ := x_bind hf
          refine x_getR C dX1_gatherStates_87 90 rfl hv87 cl1 rfl w412 ?_
          refine x_aload_n C dX1_gatherStates_90 91 rfl 1 rfl rfl ?_
          obtain ⟨v91, hv91, hf⟩ := x_bind hf
          refine x_getI C dX1_gatherStates_91 94 rfl hv91 cl1 rfl w413 ?_
          refine x_lload C dX1_gatherStates_94 96 rfl 0 rfl ?_
          obtain ⟨σ96, hσ96, hf⟩ := x_bind hf
          refine x_lastore C dX1_gatherStates_96 97 rfl hσ96 ?_
          refine x_aload_n C dX1_gatherStates_97 98 rfl 1 rfl rfl ?_
          refine x_dup C dX1_gatherStates_98 99 rfl rfl ?_
          obtain ⟨v99, hv99, hf⟩ := x_bind hf
          refine x_getI C dX1_gatherStates_99 102 rfl hv99 cl1 rfl w413 ?_
          refine x_iconst C dX1_gatherStates_102 103 rfl 1 (by decide) ?_
          refine x_iadd C dX1_gatherStates_103 104 rfl ?_
          obtain ⟨σ104, hσ104, hf⟩ := x_bind hf
          refine x_putX C dX1_gatherStates_104 107 rfl hσ104 cl1 rfl w413 rfl rfl rfl ?_
          obtain ⟨v107, ev107, hf⟩ := xlet_some hf
          refine x_iinc C dX1_gatherStates_107 110 rfl 4 rfl v107 ev107 rfl [(3, .int (v107)), (4, .long (w62)), (0, .ref (x0)), (1, .int (x1)), (2, .int (x2))] rfl ?_
          refine x_goto C dX1_gatherStates_110 40 (by decide) ?_
          refine x_lv [2, 3, 4, 0] (lv' := [(0, .ref (x0)), (1, .int (x1)), (2, .int (x2)), (3, .int (v107))]) rfl ?_
          exact hK _ (Option.some.inj hf).symm
noncomputable def fLX1_gatherStates_14 (x0 : Nat) (a : Int32 × St) : Option ((Int32 × St) ⊕ (St)) :=
(gR a.2 x0 1 0).bind fun v16 =>
(gI a.2 v16 8 1).bind fun v19 =>
if v19 ≤ a.1 then
(some (Sum.inr a.2))
else
((gR a.2 x0 1 0).bind fun v26 =>
(gR a.2 v26 8 2).bind fun v29 =>
(aL a.2 v29 a.1).bind fun v33 =>
(fX10_length v33).bind fun w34 =>
(iterP (fLX1_gatherStates_40 x0 a.1 w34) (1, a.2)).bind fun b40 =>
xlet (a.1 + 1) fun v113 =>
some (Sum.inl (v113, b40)))
set_option maxHeartbeats 4000000 in
set_option maxRecDepth 100000 in
theorem lpX1_gatherStates_14 {X : xX} {x0 : Nat}  {a0 : Int32 × St} {b : St} (C : Ok X cX1_gatherStates 6 RX1 rmX1_gatherStates none) (hb : iterP (fLX1_gatherStates_14 x0) a0 = some b) (hy0 : ∀ s, b = s → V X (0, 0) s 119 [] []) : V X (0, 0) a0.2 14 [(0, .ref (x0)), (1, .int (a0.1))] [] := by
  obtain ⟨n, hn⟩ := iterP_some hb
  refine x_loop (P := fun a => V X (0, 0) a.2 14 [(0, .ref (x0)), (1, .int (a.1))] []) ?_ n a0 hn
  intro a c hf hK hxx
  have hx0 : ∀ s, c = Sum.inr s → V X (0, 0) s 119 [] [] := fun s e => hy0 s (hxx _ e).symm
  unfold fLX1_gatherStates_14 at hf
  refine x_iload_n C dX1_gatherStates_14 15 rfl 1 rfl rfl ?_
  refine x_aload_n C dX1_gatherStates_15 16 rfl 0 rfl rfl ?_
  obtain ⟨v16, hv16, hf⟩ := x_bind hf
  refine x_getR C dX1_gatherStates_16 19 rfl hv16 cl1 rfl w411 ?_
  obtain ⟨v19, hv19, hf⟩ := x_bind hf
  refine x_getI C dX1_gatherStates_19 22 rfl hv19 cl8 rfl w184 ?_
  refine x_icmp_ge C dX1_gatherStates_22 119 (by decide) 25 rfl (fun hc => ?_) (fun hc => ?_)
  · have hf := (if_pos hc).symm.trans hf
    refine x_lv [] (lv' := []) rfl ?_
    exact hx0 _ (Option.some.inj hf).symm
  · have hf := (if_neg hc).symm.trans hf
    refine x_aload_n C dX1_gatherStates_25 26 rfl 0 rfl rfl ?_
    obtain ⟨v26, hv26, hf⟩ := x_bind hf
    refine x_getR C dX1_gatherStates_26 29 rfl hv26 cl1 rfl w411 ?_
    obtain ⟨v29, hv29, hf⟩ := x_bind hf
    refine x_getR C dX1_gatherStates_29 32 rfl hv29 cl8 rfl w191 ?_
    refine x_iload_n C dX1_gatherStates_32 33 rfl 1 rfl rfl ?_
    obtain ⟨v33, hv33, hf⟩ := x_bind hf
    refine x_laload C dX1_gatherStates_33 34 rfl hv33 ?_
    obtain ⟨w34, hw34, hf⟩ := x_bind hf
    refine x_callSi C dX1_gatherStates_34 37 rfl (cX10_lengthc hw34) kX10_length ksX10_length w1373 ⟨rfl, rfl⟩ ⟨Nat.le_of_ble_eq_true rfl, Nat.le_of_ble_eq_true rfl⟩ ⟨Nat.zero_le _, Nat.zero_le _⟩ rfl rfl (Nat.le_of_ble_eq_true rfl) ?_
    refine x_istore_n C dX1_gatherStates_37 38 rfl rfl rfl [(2, .int (w34)), (0, .ref (x0)), (1, .int (a.1))] rfl ?_
    refine x_iconst C dX1_gatherStates_38 39 rfl 1 (by decide) ?_
    refine x_istore_n C dX1_gatherStates_39 40 rfl rfl rfl [(3, .int (1)), (2, .int (w34)), (0, .ref (x0)), (1, .int (a.1))] rfl ?_
    obtain ⟨b40, hb40, hf⟩ := x_bind hf
    refine x_lv [2, 3, 1, 0] (lv' := [(0, .ref (x0)), (1, .int (a.1)), (2, .int (w34)), (3, .int (1))]) rfl ?_
    refine lpX1_gatherStates_40 C hb40 (fun s40 e40 => ?_)
    subst e40
    obtain ⟨v113, ev113, hf⟩ := xlet_some hf
    refine x_iinc C dX1_gatherStates_113 116 rfl 1 rfl v113 ev113 rfl [(1, .int (v113)), (0, .ref (x0))] rfl ?_
    refine x_goto C dX1_gatherStates_116 14 (by decide) ?_
    refine x_lv [1, 0] (lv' := [(0, .ref (x0)), (1, .int (v113))]) rfl ?_
    exact hK _ (Option.some.inj hf).symm
noncomputable def fX1_gatherStates (σ : St) (x0 : Nat) : Option (St) :=
(gR σ x0 1 1).bind fun v1 =>
(sL σ v1 0 0).bind fun σ6 =>
(wrF σ6 x0 1 2 (.int (1))).bind fun σ9 =>
(iterP (fLX1_gatherStates_14 x0) (0, σ9)).bind fun b14 =>
some b14
set_option maxHeartbeats 4000000 in
set_option maxRecDepth 100000 in
theorem cX1_gatherStatesc {l : Launch} {G : xG} {A : Nat → Prop} {σ : St} {x0 : Nat} {c : St} (hf : fX1_gatherStates σ x0 = some c) : Con l yX1_gatherStates (xws yX1_gatherStates cX1_gatherStates 6 none) rmX1_gatherStates [.ref (x0)] G A σ none c := by
  refine x_start rfl (Nat.le_of_ble_eq_true rfl) (fun X _ _ _ C hE0 => ?_)
  have hE : ∀ r, c = r → xE1 X none r := fun r e => e ▸ hE0
  show V X (0, 0) σ 0 [(0, .ref (x0))] []
  unfold fX1_gatherStates at hf
  refine x_aload_n C dX1_gatherStates_0 1 rfl 0 rfl rfl ?_
  obtain ⟨v1, hv1, hf⟩ := x_bind hf
  refine x_getR C dX1_gatherStates_1 4 rfl hv1 cl1 rfl w412 ?_
  refine x_iconst C dX1_gatherStates_4 5 rfl 0 (by decide) ?_
  refine x_lconst C dX1_gatherStates_5 6 rfl 0 (by decide) ?_
  obtain ⟨σ6, hσ6, hf⟩ := x_bind hf
  refine x_lastore C dX1_gatherStates_6 7 rfl hσ6 ?_
  refine x_aload_n C dX1_gatherStates_7 8 rfl 0 rfl rfl ?_
  refine x_iconst C dX1_gatherStates_8 9 rfl 1 (by decide) ?_
  obtain ⟨σ9, hσ9, hf⟩ := x_bind hf
  refine x_putX C dX1_gatherStates_9 12 rfl hσ9 cl1 rfl w413 rfl rfl rfl ?_
  refine x_iconst C dX1_gatherStates_12 13 rfl 0 (by decide) ?_
  refine x_istore_n C dX1_gatherStates_13 14 rfl rfl rfl [(1, .int (0)), (0, .ref (x0))] rfl ?_
  obtain ⟨b14, hb14, hf⟩ := x_bind hf
  refine x_lv [1, 0] (lv' := [(0, .ref (x0)), (1, .int (0))]) rfl ?_
  refine lpX1_gatherStates_14 C hb14 (fun s14 e14 => ?_)
  subst e14
  exact x_vret C (hE _ (Option.some.inj hf).symm) dX1_gatherStates_119
theorem dX1_isLeft_0 : decode cX1_isLeft 0 = .ok (.iconst 0, 1) := by decide +kernel
theorem dX1_isLeft_1 : decode cX1_isLeft 1 = .ok (.istore_n 3, 1) := by decide +kernel
theorem dX1_isLeft_2 : decode cX1_isLeft 2 = .ok (.iload_n 3, 1) := by decide +kernel
theorem dX1_isLeft_3 : decode cX1_isLeft 3 = .ok (.aload_n 0, 1) := by decide +kernel
theorem dX1_isLeft_4 : decode cX1_isLeft 4 = .ok (.getfield 29, 3) := by decide +kernel
theorem dX1_isLeft_7 : decode cX1_isLeft 7 = .ok (.getfield 48, 3) := by decide +kernel
theorem dX1_isLeft_10 : decode cX1_isLeft 10 = .ok (.if_icmp .ge 25, 3) := by decide +kernel
theorem dX1_isLeft_13 : decode cX1_isLeft 13 = .ok (.aload_n 0, 1) := by decide +kernel
theorem dX1_isLeft_14 : decode cX1_isLeft 14 = .ok (.getfield 29, 3) := by decide +kernel
theorem dX1_isLeft_17 : decode cX1_isLeft 17 = .ok (.getfield 51, 3) := by decide +kernel
theorem dX1_isLeft_20 : decode cX1_isLeft 20 = .ok (.iload_n 3, 1) := by decide +kernel
theorem dX1_isLeft_21 : decode cX1_isLeft 21 = .ok (.laload, 1) := by decide +kernel
theorem dX1_isLeft_22 : decode cX1_isLeft 22 = .ok (.lload_n 1, 1) := by decide +kernel
theorem dX1_isLeft_23 : decode cX1_isLeft 23 = .ok (.lcmp, 1) := by decide +kernel
theorem dX1_isLeft_24 : decode cX1_isLeft 24 = .ok (.ifCond .ne 5, 3) := by decide +kernel
theorem dX1_isLeft_27 : decode cX1_isLeft 27 = .ok (.iconst 1, 1) := by decide +kernel
theorem dX1_isLeft_28 : decode cX1_isLeft 28 = .ok (.ireturn, 1) := by decide +kernel
theorem dX1_isLeft_29 : decode cX1_isLeft 29 = .ok (.iinc 3 1, 3) := by decide +kernel
theorem dX1_isLeft_32 : decode cX1_isLeft 32 = .ok (.goto (-30), 3) := by decide +kernel
theorem dX1_isLeft_35 : decode cX1_isLeft 35 = .ok (.iconst 0, 1) := by decide +kernel
theorem dX1_isLeft_36 : decode cX1_isLeft 36 = .ok (.ireturn, 1) := by decide +kernel
abbrev rmX1_isLeft : Room := { frames := 0, cells := 0, slots := 0, locals := 0 }
noncomputable def fLX1_isLeft_2 (σ : St) (x0 : Nat) (x1 : Int64) (a : Int32) : Option ((Int32) ⊕ ((Unit) ⊕ (Unit))) :=
(gR σ x0 1 0).bind fun v4 =>
(gI σ v4 8 1).bind fun v7 =>
if v7 ≤ a then
(some (Sum.inr (Sum.inr ())))
else
((gR σ x0 1 0).bind fun v14 =>
(gR σ v14 8 2).bind fun v17 =>
(aL σ v17 a).bind fun v21 =>
if (lg_cmp v21 x1) = 0 then
(some (Sum.inr (Sum.inl ())))
else
(xlet (a + 1) fun v29 =>
some (Sum.inl v29)))
set_option maxHeartbeats 4000000 in
set_option maxRecDepth 100000 in
theorem lpX1_isLeft_2 {X : xX} {σ : St} {x0 : Nat} {x1 : Int64}  {a0 : Int32} {b : (Unit) ⊕ (Unit)} (C : Ok X cX1_isLeft 4 RX1 rmX1_isLeft (some .boolean)) (hb : iterP (fLX1_isLeft_2 σ x0 x1) a0 = some b) (hy0 : ∀ s, b = (Sum.inl s) → V X (0, 0) σ 27 [] []) (hy1 : ∀ s, b = (Sum.inr s) → V X (0, 0) σ 35 [] []) : V X (0, 0) σ 2 [(0, .ref (x0)), (1, .long (x1)), (3, .int (a0))] [] := by
  obtain ⟨n, hn⟩ := iterP_some hb
  refine x_loop (P := fun a => V X (0, 0) σ 2 [(0, .ref (x0)), (1, .long (x1)), (3, .int (a))] []) ?_ n a0 hn
  intro a c hf hK hxx
  have hx0 : ∀ s, c = Sum.inr (Sum.inl s) → V X (0, 0) σ 27 [] [] := fun s e => hy0 s (hxx _ e).symm
  have hx1 : ∀ s, c = Sum.inr (Sum.inr s) → V X (0, 0) σ 35 [] [] := fun s e => hy1 s (hxx _ e).symm
  unfold fLX1_isLeft_2 at hf
  refine x_iload_n C dX1_isLeft_2 3 rfl 2 rfl rfl ?_
  refine x_aload_n C dX1_isLeft_3 4 rfl 0 rfl rfl ?_
  obtain ⟨v4, hv4, hf⟩ := x_bind hf
  refine x_getR C dX1_isLeft_4 7 rfl hv4 cl1 rfl w411 ?_
  obtain ⟨v7, hv7, hf⟩ := x_bind hf
  refine x_getI C dX1_isLeft_7 10 rfl hv7 cl8 rfl w184 ?_
  refine x_icmp_ge C dX1_isLeft_10 35 (by decide) 13 rfl (fun hc => ?_) (fun hc => ?_)
  · have hf := (if_pos hc).symm.trans hf
    refine x_lv [] (lv' := []) rfl ?_
    exact hx1 _ (Option.some.inj hf).symm
  · have hf := (if_neg hc).symm.trans hf
    refine x_aload_n C dX1_isLeft_13 14 rfl 0 rfl rfl ?_
    obtain ⟨v14, hv14, hf⟩ := x_bind hf
    refine x_getR C dX1_isLeft_14 17 rfl hv14 cl1 rfl w411 ?_
    obtain ⟨v17, hv17, hf⟩ := x_bind hf
    refine x_getR C dX1_isLeft_17 20 rfl hv17 cl8 rfl w191 ?_
    refine x_iload_n C dX1_isLeft_20 21 rfl 2 rfl rfl ?_
    obtain ⟨v21, hv21, hf⟩ := x_bind hf
    refine x_laload C dX1_isLeft_21 22 rfl hv21 ?_
    refine x_lload_n C dX1_isLeft_22 23 rfl 1 rfl rfl ?_
    refine x_lcmp C dX1_isLeft_23 24 rfl ?_
    refine x_if_ne C dX1_isLeft_24 29 (by decide) 27 rfl (fun hc => ?_) (fun hc => ?_)
    · have hf := (if_neg hc).symm.trans hf
      obtain ⟨v29, ev29, hf⟩ := xlet_some hf
      refine x_iinc C dX1_isLeft_29 32 rfl 2 rfl v29 ev29 rfl [(3, .int (v29)), (0, .ref (x0)), (1, .long (x1))] rfl ?_
      refine x_goto C dX1_isLeft_32 2 (by decide) ?_
      refine x_lv [1, 2, 0] (lv' := [(0, .ref (x0)), (1, .long (x1)), (3, .int (v29))]) rfl ?_
      exact hK _ (Option.some.inj hf).symm
    · have hf := (if_pos hc).symm.trans hf
      refine x_lv [] (lv' := []) rfl ?_
      exact hx0 _ (Option.some.inj hf).symm
noncomputable def fX1_isLeft (σ : St) (x0 : Nat) (x1 : Int64) : Option (Int32) :=
(iterP (fLX1_isLeft_2 σ x0 x1) 0).bind fun b2 =>
(match b2 with
| .inl s2 =>
some 1
| .inr s2 =>
some 0)
set_option maxHeartbeats 4000000 in
set_option maxRecDepth 100000 in
theorem cX1_isLeftc {l : Launch} {G : xG} {A : Nat → Prop} {σ : St} {x0 : Nat} {x1 : Int64} {c : Int32} (hf : fX1_isLeft σ x0 x1 = some c) : Con l yX1_isLeft (xws yX1_isLeft cX1_isLeft 4 (some .boolean)) rmX1_isLeft [.ref (x0), .long (x1)] G A σ (some (.int c)) σ := by
  refine x_start rfl (Nat.le_of_ble_eq_true rfl) (fun X _ _ _ C hE0 => ?_)
  have hE : ∀ r, c = r → xE1 X (some (.int r)) σ := fun r e => e ▸ hE0
  show V X (0, 0) σ 0 [(0, .ref (x0)), (1, .long (x1))] []
  unfold fX1_isLeft at hf
  refine x_iconst C dX1_isLeft_0 1 rfl 0 (by decide) ?_
  refine x_istore_n C dX1_isLeft_1 2 rfl rfl rfl [(3, .int (0)), (0, .ref (x0)), (1, .long (x1))] rfl ?_
  obtain ⟨b2, hb2, hf⟩ := x_bind hf
  refine x_lv [1, 2, 0] (lv' := [(0, .ref (x0)), (1, .long (x1)), (3, .int (0))]) rfl ?_
  refine lpX1_isLeft_2 C hb2 (fun s2 e2 => ?_) (fun s2 e2 => ?_)
  · subst e2
    try dsimp only at hf
    refine x_iconst C dX1_isLeft_27 28 rfl 1 (by decide) ?_
    exact x_zret C rfl (hE _ (Option.some.inj hf).symm) dX1_isLeft_28
  · subst e2
    try dsimp only at hf
    refine x_iconst C dX1_isLeft_35 36 rfl 0 (by decide) ?_
    exact x_zret C rfl (hE _ (Option.some.inj hf).symm) dX1_isLeft_36
theorem dX1_nextOf_0 : decode cX1_nextOf 0 = .ok (.iconst (-1), 1) := by decide +kernel
theorem dX1_nextOf_1 : decode cX1_nextOf 1 = .ok (.istore_n 3, 1) := by decide +kernel
theorem dX1_nextOf_2 : decode cX1_nextOf 2 = .ok (.iconst 0, 1) := by decide +kernel
theorem dX1_nextOf_3 : decode cX1_nextOf 3 = .ok (.istore 4, 2) := by decide +kernel
theorem dX1_nextOf_5 : decode cX1_nextOf 5 = .ok (.iload 4, 2) := by decide +kernel
theorem dX1_nextOf_7 : decode cX1_nextOf 7 = .ok (.lload_n 1, 1) := by decide +kernel
theorem dX1_nextOf_8 : decode cX1_nextOf 8 = .ok (.invokestatic 54, 3) := by decide +kernel
theorem dX1_nextOf_11 : decode cX1_nextOf 11 = .ok (.if_icmp .gt 51, 3) := by decide +kernel
theorem dX1_nextOf_14 : decode cX1_nextOf 14 = .ok (.lload_n 1, 1) := by decide +kernel
theorem dX1_nextOf_15 : decode cX1_nextOf 15 = .ok (.iload 4, 2) := by decide +kernel
theorem dX1_nextOf_17 : decode cX1_nextOf 17 = .ok (.lload_n 1, 1) := by decide +kernel
theorem dX1_nextOf_18 : decode cX1_nextOf 18 = .ok (.invokestatic 54, 3) := by decide +kernel
theorem dX1_nextOf_21 : decode cX1_nextOf 21 = .ok (.iload 4, 2) := by decide +kernel
theorem dX1_nextOf_23 : decode cX1_nextOf 23 = .ok (.isub, 1) := by decide +kernel
theorem dX1_nextOf_24 : decode cX1_nextOf 24 = .ok (.invokestatic 60, 3) := by decide +kernel
theorem dX1_nextOf_27 : decode cX1_nextOf 27 = .ok (.lstore 5, 2) := by decide +kernel
theorem dX1_nextOf_29 : decode cX1_nextOf 29 = .ok (.aload_n 0, 1) := by decide +kernel
theorem dX1_nextOf_30 : decode cX1_nextOf 30 = .ok (.lload 5, 2) := by decide +kernel
theorem dX1_nextOf_32 : decode cX1_nextOf 32 = .ok (.invokevirtual 77, 3) := by decide +kernel
theorem dX1_nextOf_35 : decode cX1_nextOf 35 = .ok (.ifCond .eq 5, 3) := by decide +kernel
theorem dX1_nextOf_38 : decode cX1_nextOf 38 = .ok (.iconst (-1), 1) := by decide +kernel
theorem dX1_nextOf_39 : decode cX1_nextOf 39 = .ok (.ireturn, 1) := by decide +kernel
theorem dX1_nextOf_40 : decode cX1_nextOf 40 = .ok (.iload_n 3, 1) := by decide +kernel
theorem dX1_nextOf_41 : decode cX1_nextOf 41 = .ok (.iconst (-1), 1) := by decide +kernel
theorem dX1_nextOf_42 : decode cX1_nextOf 42 = .ok (.if_icmp .ne 12, 3) := by decide +kernel
theorem dX1_nextOf_45 : decode cX1_nextOf 45 = .ok (.aload_n 0, 1) := by decide +kernel
theorem dX1_nextOf_46 : decode cX1_nextOf 46 = .ok (.lload 5, 2) := by decide +kernel
theorem dX1_nextOf_48 : decode cX1_nextOf 48 = .ok (.invokevirtual 64, 3) := by decide +kernel
theorem dX1_nextOf_51 : decode cX1_nextOf 51 = .ok (.goto 4, 3) := by decide +kernel
theorem dX1_nextOf_54 : decode cX1_nextOf 54 = .ok (.iload_n 3, 1) := by decide +kernel
theorem dX1_nextOf_55 : decode cX1_nextOf 55 = .ok (.istore_n 3, 1) := by decide +kernel
theorem dX1_nextOf_56 : decode cX1_nextOf 56 = .ok (.iinc 4 1, 3) := by decide +kernel
theorem dX1_nextOf_59 : decode cX1_nextOf 59 = .ok (.goto (-54), 3) := by decide +kernel
theorem dX1_nextOf_62 : decode cX1_nextOf 62 = .ok (.iload_n 3, 1) := by decide +kernel
theorem dX1_nextOf_63 : decode cX1_nextOf 63 = .ok (.ireturn, 1) := by decide +kernel
abbrev rmX1_nextOf : Room := { frames := 1, cells := 0, slots := 0, locals := 25 }
noncomputable def fLX1_nextOf_5 (σ : St) (x0 : Nat) (x1 : Int64) (a : Int32 × Int32) : Option ((Int32 × Int32) ⊕ ((Unit) ⊕ (Int32))) :=
(fX10_length x1).bind fun w8 =>
if w8 < a.2 then
(some (Sum.inr (Sum.inr a.1)))
else
((fX10_length x1).bind fun w18 =>
(fX10_part x1 a.2 (w18 - a.2)).bind fun w24 =>
(isO σ x0 1).bind fun _ =>
(fX1_isLeft σ x0 w24).bind fun w32 =>
if w32 = 0 then
(if a.1 = (((-1) : Int32)) then
((isO σ x0 1).bind fun _ =>
(fX1_stateOf σ x0 w24).bind fun w48 =>
xlet (a.2 + 1) fun v56 =>
some (Sum.inl (w48, v56)))
else
(xlet (a.2 + 1) fun v56 =>
some (Sum.inl (a.1, v56))))
else
(some (Sum.inr (Sum.inl ()))))
set_option maxHeartbeats 4000000 in
set_option maxRecDepth 100000 in
theorem lpX1_nextOf_5 {X : xX} {σ : St} {x0 : Nat} {x1 : Int64}  {a0 : Int32 × Int32} {b : (Unit) ⊕ (Int32)} (C : Ok X cX1_nextOf 7 RX1 rmX1_nextOf (some .int)) (hb : iterP (fLX1_nextOf_5 σ x0 x1) a0 = some b) (hy0 : ∀ s, b = (Sum.inl s) → V X (0, 0) σ 38 [] []) (hy1 : ∀ s, b = (Sum.inr s) → V X (0, 0) σ 62 [(3, .int (s))] []) : V X (0, 0) σ 5 [(0, .ref (x0)), (1, .long (x1)), (3, .int (a0.1)), (4, .int (a0.2))] [] := by
  obtain ⟨n, hn⟩ := iterP_some hb
  refine x_loop (P := fun a => V X (0, 0) σ 5 [(0, .ref (x0)), (1, .long (x1)), (3, .int (a.1)), (4, .int (a.2))] []) ?_ n a0 hn
  intro a c hf hK hxx
  have hx0 : ∀ s, c = Sum.inr (Sum.inl s) → V X (0, 0) σ 38 [] [] := fun s e => hy0 s (hxx _ e).symm
  have hx1 : ∀ s, c = Sum.inr (Sum.inr s) → V X (0, 0) σ 62 [(3, .int (s))] [] := fun s e => hy1 s (hxx _ e).symm
  unfold fLX1_nextOf_5 at hf
  refine x_iload C dX1_nextOf_5 7 rfl 3 rfl ?_
  refine x_lload_n C dX1_nextOf_7 8 rfl 1 rfl rfl ?_
  obtain ⟨w8, hw8, hf⟩ := x_bind hf
  refine x_callSi C dX1_nextOf_8 11 rfl (cX10_lengthc hw8) kX10_length ksX10_length w1373 ⟨rfl, rfl⟩ ⟨Nat.le_of_ble_eq_true rfl, Nat.le_of_ble_eq_true rfl⟩ ⟨Nat.zero_le _, Nat.zero_le _⟩ rfl rfl (Nat.le_of_ble_eq_true rfl) ?_
  refine x_icmp_gt C dX1_nextOf_11 62 (by decide) 14 rfl (fun hc => ?_) (fun hc => ?_)
  · have hf := (if_pos hc).symm.trans hf
    refine x_lv [2] (lv' := [(3, .int (a.1))]) rfl ?_
    exact hx1 _ (Option.some.inj hf).symm
  · have hf := (if_neg hc).symm.trans hf
    refine x_lload_n C dX1_nextOf_14 15 rfl 1 rfl rfl ?_
    refine x_iload C dX1_nextOf_15 17 rfl 3 rfl ?_
    refine x_lload_n C dX1_nextOf_17 18 rfl 1 rfl rfl ?_
    obtain ⟨w18, hw18, hf⟩ := x_bind hf
    refine x_callSi C dX1_nextOf_18 21 rfl (cX10_lengthc hw18) kX10_length ksX10_length w1373 ⟨rfl, rfl⟩ ⟨Nat.le_of_ble_eq_true rfl, Nat.le_of_ble_eq_true rfl⟩ ⟨Nat.zero_le _, Nat.zero_le _⟩ rfl rfl (Nat.le_of_ble_eq_true rfl) ?_
    refine x_iload C dX1_nextOf_21 23 rfl 3 rfl ?_
    refine x_isub C dX1_nextOf_23 24 rfl ?_
    obtain ⟨w24, hw24, hf⟩ := x_bind hf
    refine x_callSl C dX1_nextOf_24 27 rfl (cX10_partc hw24) kX10_part ksX10_part w1374 ⟨rfl, rfl⟩ ⟨Nat.le_of_ble_eq_true rfl, Nat.le_of_ble_eq_true rfl⟩ ⟨Nat.zero_le _, Nat.zero_le _⟩ rfl rfl (Nat.le_of_ble_eq_true rfl) ?_
    refine x_lstore C dX1_nextOf_27 29 rfl rfl [(5, .long (w24)), (0, .ref (x0)), (1, .long (x1)), (3, .int (a.1)), (4, .int (a.2))] rfl ?_
    refine x_aload_n C dX1_nextOf_29 30 rfl 1 rfl rfl ?_
    refine x_lload C dX1_nextOf_30 32 rfl 0 rfl ?_
    obtain ⟨o32, ho32, hf⟩ := x_bind hf
    obtain ⟨w32, hw32, hf⟩ := x_bind hf
    refine x_callVi C dX1_nextOf_32 35 rfl ho32 cl1.1 rfl (cX1_isLeftc hw32) kX1_isLeft kvX1_isLeft w1388 ⟨rfl, rfl⟩ ⟨Nat.le_of_ble_eq_true rfl, Nat.le_of_ble_eq_true rfl⟩ ⟨Nat.zero_le _, Nat.zero_le _⟩ rfl rfl (Nat.le_of_ble_eq_true rfl) ?_
    refine x_if_eq C dX1_nextOf_35 40 (by decide) 38 rfl (fun hc => ?_) (fun hc => ?_)
    · have hf := (if_pos hc).symm.trans hf
      refine x_iload_n C dX1_nextOf_40 41 rfl 3 rfl rfl ?_
      refine x_iconst C dX1_nextOf_41 42 rfl (-1) (by decide) ?_
      refine x_icmp_ne C dX1_nextOf_42 54 (by decide) 45 rfl (fun hc => ?_) (fun hc => ?_)
      · have hf := (if_neg hc).symm.trans hf
        refine x_iload_n C dX1_nextOf_54 55 rfl 3 rfl rfl ?_
        refine x_istore_n C dX1_nextOf_55 56 rfl rfl rfl [(3, .int (a.1)), (5, .long (w24)), (0, .ref (x0)), (1, .long (x1)), (4, .int (a.2))] rfl ?_
        obtain ⟨v56, ev56, hf⟩ := xlet_some hf
        refine x_iinc C dX1_nextOf_56 59 rfl 4 rfl v56 ev56 rfl [(4, .int (v56)), (3, .int (a.1)), (5, .long (w24)), (0, .ref (x0)), (1, .long (x1))] rfl ?_
        refine x_goto C dX1_nextOf_59 5 (by decide) ?_
        refine x_lv [3, 4, 1, 0] (lv' := [(0, .ref (x0)), (1, .long (x1)), (3, .int (a.1)), (4, .int (v56))]) rfl ?_
        exact hK _ (Option.some.inj hf).symm
      · have hf := (if_pos hc).symm.trans hf
        refine x_aload_n C dX1_nextOf_45 46 rfl 1 rfl rfl ?_
        refine x_lload C dX1_nextOf_46 48 rfl 0 rfl ?_
        obtain ⟨o48, ho48, hf⟩ := x_bind hf
        obtain ⟨w48, hw48, hf⟩ := x_bind hf
        refine x_callVi C dX1_nextOf_48 51 rfl ho48 cl1.1 rfl (cX1_stateOfc hw48) kX1_stateOf kvX1_stateOf w1375 ⟨rfl, rfl⟩ ⟨Nat.le_of_ble_eq_true rfl, Nat.le_of_ble_eq_true rfl⟩ ⟨Nat.zero_le _, Nat.zero_le _⟩ rfl rfl (Nat.le_of_ble_eq_true rfl) ?_
        refine x_goto C dX1_nextOf_51 55 (by decide) ?_
        refine x_istore_n C dX1_nextOf_55 56 rfl rfl rfl [(3, .int (w48)), (5, .long (w24)), (0, .ref (x0)), (1, .long (x1)), (4, .int (a.2))] rfl ?_
        obtain ⟨v56, ev56, hf⟩ := xlet_some hf
        refine x_iinc C dX1_nextOf_56 59 rfl 4 rfl v56 ev56 rfl [(4, .int (v56)), (3, .int (w48)), (5, .long (w24)), (0, .ref (x0)), (1, .long (x1))] rfl ?_
        refine x_goto C dX1_nextOf_59 5 (by decide) ?_
        refine x_lv [3, 4, 1, 0] (lv' := [(0, .ref (x0)), (1, .long (x1)), (3, .int (w48)), (4, .int (v56))]) rfl ?_
        exact hK _ (Option.some.inj hf).symm
    · have hf := (if_neg hc).symm.trans hf
      refine x_lv [] (lv' := []) rfl ?_
      exact hx0 _ (Option.some.inj hf).symm
noncomputable def fX1_nextOf (σ : St) (x0 : Nat) (x1 : Int64) : Option (Int32) :=
(iterP (fLX1_nextOf_5 σ x0 x1) ((-1), 0)).bind fun b5 =>
(match b5 with
| .inl s5 =>
some (-1)
| .inr s5 =>
some s5)
set_option maxHeartbeats 4000000 in
set_option maxRecDepth 100000 in
theorem cX1_nextOfc {l : Launch} {G : xG} {A : Nat → Prop} {σ : St} {x0 : Nat} {x1 : Int64} {c : Int32} (hf : fX1_nextOf σ x0 x1 = some c) : Con l yX1_nextOf (xws yX1_nextOf cX1_nextOf 7 (some .int)) rmX1_nextOf [.ref (x0), .long (x1)] G A σ (some (.int c)) σ := by
  refine x_start rfl (Nat.le_of_ble_eq_true rfl) (fun X _ _ _ C hE0 => ?_)
  have hE : ∀ r, c = r → xE1 X (some (.int r)) σ := fun r e => e ▸ hE0
  show V X (0, 0) σ 0 [(0, .ref (x0)), (1, .long (x1))] []
  unfold fX1_nextOf at hf
  refine x_iconst C dX1_nextOf_0 1 rfl (-1) (by decide) ?_
  refine x_istore_n C dX1_nextOf_1 2 rfl rfl rfl [(3, .int ((-1))), (0, .ref (x0)), (1, .long (x1))] rfl ?_
  refine x_iconst C dX1_nextOf_2 3 rfl 0 (by decide) ?_
  refine x_istore C dX1_nextOf_3 5 rfl rfl [(4, .int (0)), (3, .int ((-1))), (0, .ref (x0)), (1, .long (x1))] rfl ?_
  obtain ⟨b5, hb5, hf⟩ := x_bind hf
  refine x_lv [2, 3, 1, 0] (lv' := [(0, .ref (x0)), (1, .long (x1)), (3, .int ((-1))), (4, .int (0))]) rfl ?_
  refine lpX1_nextOf_5 C hb5 (fun s5 e5 => ?_) (fun s5 e5 => ?_)
  · subst e5
    try dsimp only at hf
    refine x_iconst C dX1_nextOf_38 39 rfl (-1) (by decide) ?_
    exact x_iret C (hE _ (Option.some.inj hf).symm) dX1_nextOf_39
  · subst e5
    try dsimp only at hf
    refine x_iload_n C dX1_nextOf_62 63 rfl 0 rfl rfl ?_
    exact x_iret C (hE _ (Option.some.inj hf).symm) dX1_nextOf_63
theorem dX1_linkStates_0 : decode cX1_linkStates 0 = .ok (.iconst 0, 1) := by decide +kernel
theorem dX1_linkStates_1 : decode cX1_linkStates 1 = .ok (.istore_n 1, 1) := by decide +kernel
theorem dX1_linkStates_2 : decode cX1_linkStates 2 = .ok (.iload_n 1, 1) := by decide +kernel
theorem dX1_linkStates_3 : decode cX1_linkStates 3 = .ok (.aload_n 0, 1) := by decide +kernel
theorem dX1_linkStates_4 : decode cX1_linkStates 4 = .ok (.getfield 15, 3) := by decide +kernel
theorem dX1_linkStates_7 : decode cX1_linkStates 7 = .ok (.if_icmp .ge 52, 3) := by decide +kernel
theorem dX1_linkStates_10 : decode cX1_linkStates 10 = .ok (.iconst 0, 1) := by decide +kernel
theorem dX1_linkStates_11 : decode cX1_linkStates 11 = .ok (.istore_n 2, 1) := by decide +kernel
theorem dX1_linkStates_12 : decode cX1_linkStates 12 = .ok (.iload_n 2, 1) := by decide +kernel
theorem dX1_linkStates_13 : decode cX1_linkStates 13 = .ok (.aload_n 0, 1) := by decide +kernel
theorem dX1_linkStates_14 : decode cX1_linkStates 14 = .ok (.getfield 29, 3) := by decide +kernel
theorem dX1_linkStates_17 : decode cX1_linkStates 17 = .ok (.getfield 67, 3) := by decide +kernel
theorem dX1_linkStates_20 : decode cX1_linkStates 20 = .ok (.if_icmp .ge 33, 3) := by decide +kernel
theorem dX1_linkStates_23 : decode cX1_linkStates 23 = .ok (.aload_n 0, 1) := by decide +kernel
theorem dX1_linkStates_24 : decode cX1_linkStates 24 = .ok (.getfield 19, 3) := by decide +kernel
theorem dX1_linkStates_27 : decode cX1_linkStates 27 = .ok (.iload_n 1, 1) := by decide +kernel
theorem dX1_linkStates_28 : decode cX1_linkStates 28 = .ok (.iconst 5, 1) := by decide +kernel
theorem dX1_linkStates_29 : decode cX1_linkStates 29 = .ok (.imul, 1) := by decide +kernel
theorem dX1_linkStates_30 : decode cX1_linkStates 30 = .ok (.iload_n 2, 1) := by decide +kernel
theorem dX1_linkStates_31 : decode cX1_linkStates 31 = .ok (.iadd, 1) := by decide +kernel
theorem dX1_linkStates_32 : decode cX1_linkStates 32 = .ok (.aload_n 0, 1) := by decide +kernel
theorem dX1_linkStates_33 : decode cX1_linkStates 33 = .ok (.aload_n 0, 1) := by decide +kernel
theorem dX1_linkStates_34 : decode cX1_linkStates 34 = .ok (.getfield 11, 3) := by decide +kernel
theorem dX1_linkStates_37 : decode cX1_linkStates 37 = .ok (.iload_n 1, 1) := by decide +kernel
theorem dX1_linkStates_38 : decode cX1_linkStates 38 = .ok (.laload, 1) := by decide +kernel
theorem dX1_linkStates_39 : decode cX1_linkStates 39 = .ok (.iload_n 2, 1) := by decide +kernel
theorem dX1_linkStates_40 : decode cX1_linkStates 40 = .ok (.invokestatic 70, 3) := by decide +kernel
theorem dX1_linkStates_43 : decode cX1_linkStates 43 = .ok (.invokevirtual 74, 3) := by decide +kernel
theorem dX1_linkStates_46 : decode cX1_linkStates 46 = .ok (.iastore, 1) := by decide +kernel
theorem dX1_linkStates_47 : decode cX1_linkStates 47 = .ok (.iinc 2 1, 3) := by decide +kernel
theorem dX1_linkStates_50 : decode cX1_linkStates 50 = .ok (.goto (-38), 3) := by decide +kernel
theorem dX1_linkStates_53 : decode cX1_linkStates 53 = .ok (.iinc 1 1, 3) := by decide +kernel
theorem dX1_linkStates_56 : decode cX1_linkStates 56 = .ok (.goto (-54), 3) := by decide +kernel
theorem dX1_linkStates_59 : decode cX1_linkStates 59 = .ok (.return_, 1) := by decide +kernel
abbrev rmX1_linkStates : Room := { frames := 2, cells := 0, slots := 0, locals := 51 }
noncomputable def fLX1_linkStates_12 (x0 : Nat) (x1 : Int32) (a : Int32 × St) : Option ((Int32 × St) ⊕ (St)) :=
(gR a.2 x0 1 0).bind fun v14 =>
(gI a.2 v14 8 0).bind fun v17 =>
if v17 ≤ a.1 then
(some (Sum.inr a.2))
else
((gR a.2 x0 1 3).bind fun v24 =>
(gR a.2 x0 1 1).bind fun v34 =>
(aL a.2 v34 x1).bind fun v38 =>
(fX10_longer v38 a.1).bind fun w40 =>
(isO a.2 x0 1).bind fun _ =>
(fX1_nextOf a.2 x0 w40).bind fun w43 =>
(sI a.2 v24 ((x1 * 5) + a.1) w43).bind fun σ46 =>
xlet (a.1 + 1) fun v47 =>
some (Sum.inl (v47, σ46)))
set_option maxHeartbeats 4000000 in
set_option maxRecDepth 100000 in
theorem lpX1_linkStates_12 {X : xX} {x0 : Nat} {x1 : Int32}  {a0 : Int32 × St} {b : St} (C : Ok X cX1_linkStates 3 RX1 rmX1_linkStates none) (hb : iterP (fLX1_linkStates_12 x0 x1) a0 = some b) (hy0 : ∀ s, b = s → V X (0, 0) s 53 [(0, .ref (x0)), (1, .int (x1))] []) : V X (0, 0) a0.2 12 [(0, .ref (x0)), (1, .int (x1)), (2, .int (a0.1))] [] := by
  obtain ⟨n, hn⟩ := iterP_some hb
  refine x_loop (P := fun a => V X (0, 0) a.2 12 [(0, .ref (x0)), (1, .int (x1)), (2, .int (a.1))] []) ?_ n a0 hn
  intro a c hf hK hxx
  have hx0 : ∀ s, c = Sum.inr s → V X (0, 0) s 53 [(0, .ref (x0)), (1, .int (x1))] [] := fun s e => hy0 s (hxx _ e).symm
  unfold fLX1_linkStates_12 at hf
  refine x_iload_n C dX1_linkStates_12 13 rfl 2 rfl rfl ?_
  refine x_aload_n C dX1_linkStates_13 14 rfl 0 rfl rfl ?_
  obtain ⟨v14, hv14, hf⟩ := x_bind hf
  refine x_getR C dX1_linkStates_14 17 rfl hv14 cl1 rfl w411 ?_
  obtain ⟨v17, hv17, hf⟩ := x_bind hf
  refine x_getI C dX1_linkStates_17 20 rfl hv17 cl8 rfl w179 ?_
  refine x_icmp_ge C dX1_linkStates_20 53 (by decide) 23 rfl (fun hc => ?_) (fun hc => ?_)
  · have hf := (if_pos hc).symm.trans hf
    refine x_lv [0, 1] (lv' := [(0, .ref (x0)), (1, .int (x1))]) rfl ?_
    exact hx0 _ (Option.some.inj hf).symm
  · have hf := (if_neg hc).symm.trans hf
    refine x_aload_n C dX1_linkStates_23 24 rfl 0 rfl rfl ?_
    obtain ⟨v24, hv24, hf⟩ := x_bind hf
    refine x_getR C dX1_linkStates_24 27 rfl hv24 cl1 rfl w414 ?_
    refine x_iload_n C dX1_linkStates_27 28 rfl 1 rfl rfl ?_
    refine x_iconst C dX1_linkStates_28 29 rfl 5 (by decide) ?_
    refine x_imul C dX1_linkStates_29 30 rfl ?_
    refine x_iload_n C dX1_linkStates_30 31 rfl 2 rfl rfl ?_
    refine x_iadd C dX1_linkStates_31 32 rfl ?_
    refine x_aload_n C dX1_linkStates_32 33 rfl 0 rfl rfl ?_
    refine x_aload_n C dX1_linkStates_33 34 rfl 0 rfl rfl ?_
    obtain ⟨v34, hv34, hf⟩ := x_bind hf
    refine x_getR C dX1_linkStates_34 37 rfl hv34 cl1 rfl w412 ?_
    refine x_iload_n C dX1_linkStates_37 38 rfl 1 rfl rfl ?_
    obtain ⟨v38, hv38, hf⟩ := x_bind hf
    refine x_laload C dX1_linkStates_38 39 rfl hv38 ?_
    refine x_iload_n C dX1_linkStates_39 40 rfl 2 rfl rfl ?_
    obtain ⟨w40, hw40, hf⟩ := x_bind hf
    refine x_callSl C dX1_linkStates_40 43 rfl (cX10_longerc hw40) kX10_longer ksX10_longer w1383 ⟨rfl, rfl⟩ ⟨Nat.le_of_ble_eq_true rfl, Nat.le_of_ble_eq_true rfl⟩ ⟨Nat.zero_le _, Nat.zero_le _⟩ rfl rfl (Nat.le_of_ble_eq_true rfl) ?_
    obtain ⟨o43, ho43, hf⟩ := x_bind hf
    obtain ⟨w43, hw43, hf⟩ := x_bind hf
    refine x_callVi C dX1_linkStates_43 46 rfl ho43 cl1.1 rfl (cX1_nextOfc hw43) kX1_nextOf kvX1_nextOf w1384 ⟨rfl, rfl⟩ ⟨Nat.le_of_ble_eq_true rfl, Nat.le_of_ble_eq_true rfl⟩ ⟨Nat.zero_le _, Nat.zero_le _⟩ rfl rfl (Nat.le_of_ble_eq_true rfl) ?_
    obtain ⟨σ46, hσ46, hf⟩ := x_bind hf
    refine x_iastore C dX1_linkStates_46 47 rfl hσ46 ?_
    obtain ⟨v47, ev47, hf⟩ := xlet_some hf
    refine x_iinc C dX1_linkStates_47 50 rfl 2 rfl v47 ev47 rfl [(2, .int (v47)), (0, .ref (x0)), (1, .int (x1))] rfl ?_
    refine x_goto C dX1_linkStates_50 12 (by decide) ?_
    refine x_lv [1, 2, 0] (lv' := [(0, .ref (x0)), (1, .int (x1)), (2, .int (v47))]) rfl ?_
    exact hK _ (Option.some.inj hf).symm
noncomputable def fLX1_linkStates_2 (x0 : Nat) (a : Int32 × St) : Option ((Int32 × St) ⊕ (St)) :=
(gI a.2 x0 1 2).bind fun v4 =>
if v4 ≤ a.1 then
(some (Sum.inr a.2))
else
((iterP (fLX1_linkStates_12 x0 a.1) (0, a.2)).bind fun b12 =>
xlet (a.1 + 1) fun v53 =>
some (Sum.inl (v53, b12)))
set_option maxHeartbeats 4000000 in
set_option maxRecDepth 100000 in
theorem lpX1_linkStates_2 {X : xX} {x0 : Nat}  {a0 : Int32 × St} {b : St} (C : Ok X cX1_linkStates 3 RX1 rmX1_linkStates none) (hb : iterP (fLX1_linkStates_2 x0) a0 = some b) (hy0 : ∀ s, b = s → V X (0, 0) s 59 [] []) : V X (0, 0) a0.2 2 [(0, .ref (x0)), (1, .int (a0.1))] [] := by
  obtain ⟨n, hn⟩ := iterP_some hb
  refine x_loop (P := fun a => V X (0, 0) a.2 2 [(0, .ref (x0)), (1, .int (a.1))] []) ?_ n a0 hn
  intro a c hf hK hxx
  have hx0 : ∀ s, c = Sum.inr s → V X (0, 0) s 59 [] [] := fun s e => hy0 s (hxx _ e).symm
  unfold fLX1_linkStates_2 at hf
  refine x_iload_n C dX1_linkStates_2 3 rfl 1 rfl rfl ?_
  refine x_aload_n C dX1_linkStates_3 4 rfl 0 rfl rfl ?_
  obtain ⟨v4, hv4, hf⟩ := x_bind hf
  refine x_getI C dX1_linkStates_4 7 rfl hv4 cl1 rfl w413 ?_
  refine x_icmp_ge C dX1_linkStates_7 59 (by decide) 10 rfl (fun hc => ?_) (fun hc => ?_)
  · have hf := (if_pos hc).symm.trans hf
    refine x_lv [] (lv' := []) rfl ?_
    exact hx0 _ (Option.some.inj hf).symm
  · have hf := (if_neg hc).symm.trans hf
    refine x_iconst C dX1_linkStates_10 11 rfl 0 (by decide) ?_
    refine x_istore_n C dX1_linkStates_11 12 rfl rfl rfl [(2, .int (0)), (0, .ref (x0)), (1, .int (a.1))] rfl ?_
    obtain ⟨b12, hb12, hf⟩ := x_bind hf
    refine x_lv [1, 2, 0] (lv' := [(0, .ref (x0)), (1, .int (a.1)), (2, .int (0))]) rfl ?_
    refine lpX1_linkStates_12 C hb12 (fun s12 e12 => ?_)
    subst e12
    obtain ⟨v53, ev53, hf⟩ := xlet_some hf
    refine x_iinc C dX1_linkStates_53 56 rfl 1 rfl v53 ev53 rfl [(1, .int (v53)), (0, .ref (x0))] rfl ?_
    refine x_goto C dX1_linkStates_56 2 (by decide) ?_
    refine x_lv [1, 0] (lv' := [(0, .ref (x0)), (1, .int (v53))]) rfl ?_
    exact hK _ (Option.some.inj hf).symm
noncomputable def fX1_linkStates (σ : St) (x0 : Nat) : Option (St) :=
(iterP (fLX1_linkStates_2 x0) (0, σ)).bind fun b2 =>
some b2
set_option maxHeartbeats 4000000 in
set_option maxRecDepth 100000 in
theorem cX1_linkStatesc {l : Launch} {G : xG} {A : Nat → Prop} {σ : St} {x0 : Nat} {c : St} (hf : fX1_linkStates σ x0 = some c) : Con l yX1_linkStates (xws yX1_linkStates cX1_linkStates 3 none) rmX1_linkStates [.ref (x0)] G A σ none c := by
  refine x_start rfl (Nat.le_of_ble_eq_true rfl) (fun X _ _ _ C hE0 => ?_)
  have hE : ∀ r, c = r → xE1 X none r := fun r e => e ▸ hE0
  show V X (0, 0) σ 0 [(0, .ref (x0))] []
  unfold fX1_linkStates at hf
  refine x_iconst C dX1_linkStates_0 1 rfl 0 (by decide) ?_
  refine x_istore_n C dX1_linkStates_1 2 rfl rfl rfl [(1, .int (0)), (0, .ref (x0))] rfl ?_
  obtain ⟨b2, hb2, hf⟩ := x_bind hf
  refine x_lv [1, 0] (lv' := [(0, .ref (x0)), (1, .int (0))]) rfl ?_
  refine lpX1_linkStates_2 C hb2 (fun s2 e2 => ?_)
  subst e2
  exact x_vret C (hE _ (Option.some.inj hf).symm) dX1_linkStates_59
theorem dX1_readOneLetter_0 : decode cX1_readOneLetter 0 = .ok (.aload_n 0, 1) := by decide +kernel
theorem dX1_readOneLetter_1 : decode cX1_readOneLetter 1 = .ok (.getfield 26, 3) := by decide +kernel
theorem dX1_readOneLetter_4 : decode cX1_readOneLetter 4 = .ok (.iconst 0, 1) := by decide +kernel
theorem dX1_readOneLetter_5 : decode cX1_readOneLetter 5 = .ok (.invokestatic 39, 3) := by decide +kernel
theorem dX1_readOneLetter_8 : decode cX1_readOneLetter 8 = .ok (.iconst 0, 1) := by decide +kernel
theorem dX1_readOneLetter_9 : decode cX1_readOneLetter 9 = .ok (.istore_n 1, 1) := by decide +kernel
theorem dX1_readOneLetter_10 : decode cX1_readOneLetter 10 = .ok (.iload_n 1, 1) := by decide +kernel
theorem dX1_readOneLetter_11 : decode cX1_readOneLetter 11 = .ok (.aload_n 0, 1) := by decide +kernel
theorem dX1_readOneLetter_12 : decode cX1_readOneLetter 12 = .ok (.getfield 15, 3) := by decide +kernel
theorem dX1_readOneLetter_15 : decode cX1_readOneLetter 15 = .ok (.if_icmp .ge 59, 3) := by decide +kernel
theorem dX1_readOneLetter_18 : decode cX1_readOneLetter 18 = .ok (.iconst 0, 1) := by decide +kernel
theorem dX1_readOneLetter_19 : decode cX1_readOneLetter 19 = .ok (.istore_n 2, 1) := by decide +kernel
theorem dX1_readOneLetter_20 : decode cX1_readOneLetter 20 = .ok (.iload_n 2, 1) := by decide +kernel
theorem dX1_readOneLetter_21 : decode cX1_readOneLetter 21 = .ok (.aload_n 0, 1) := by decide +kernel
theorem dX1_readOneLetter_22 : decode cX1_readOneLetter 22 = .ok (.getfield 29, 3) := by decide +kernel
theorem dX1_readOneLetter_25 : decode cX1_readOneLetter 25 = .ok (.getfield 67, 3) := by decide +kernel
theorem dX1_readOneLetter_28 : decode cX1_readOneLetter 28 = .ok (.if_icmp .ge 40, 3) := by decide +kernel
theorem dX1_readOneLetter_31 : decode cX1_readOneLetter 31 = .ok (.aload_n 0, 1) := by decide +kernel
theorem dX1_readOneLetter_32 : decode cX1_readOneLetter 32 = .ok (.getfield 19, 3) := by decide +kernel
theorem dX1_readOneLetter_35 : decode cX1_readOneLetter 35 = .ok (.iload_n 1, 1) := by decide +kernel
theorem dX1_readOneLetter_36 : decode cX1_readOneLetter 36 = .ok (.iconst 5, 1) := by decide +kernel
theorem dX1_readOneLetter_37 : decode cX1_readOneLetter 37 = .ok (.imul, 1) := by decide +kernel
theorem dX1_readOneLetter_38 : decode cX1_readOneLetter 38 = .ok (.iload_n 2, 1) := by decide +kernel
theorem dX1_readOneLetter_39 : decode cX1_readOneLetter 39 = .ok (.iadd, 1) := by decide +kernel
theorem dX1_readOneLetter_40 : decode cX1_readOneLetter 40 = .ok (.iaload, 1) := by decide +kernel
theorem dX1_readOneLetter_41 : decode cX1_readOneLetter 41 = .ok (.istore_n 3, 1) := by decide +kernel
theorem dX1_readOneLetter_42 : decode cX1_readOneLetter 42 = .ok (.iload_n 3, 1) := by decide +kernel
theorem dX1_readOneLetter_43 : decode cX1_readOneLetter 43 = .ok (.iconst (-1), 1) := by decide +kernel
theorem dX1_readOneLetter_44 : decode cX1_readOneLetter 44 = .ok (.if_icmp .eq 18, 3) := by decide +kernel
theorem dX1_readOneLetter_47 : decode cX1_readOneLetter 47 = .ok (.aload_n 0, 1) := by decide +kernel
theorem dX1_readOneLetter_48 : decode cX1_readOneLetter 48 = .ok (.getfield 26, 3) := by decide +kernel
theorem dX1_readOneLetter_51 : decode cX1_readOneLetter 51 = .ok (.iload_n 3, 1) := by decide +kernel
theorem dX1_readOneLetter_52 : decode cX1_readOneLetter 52 = .ok (.dup2, 1) := by decide +kernel
theorem dX1_readOneLetter_53 : decode cX1_readOneLetter 53 = .ok (.iaload, 1) := by decide +kernel
theorem dX1_readOneLetter_54 : decode cX1_readOneLetter 54 = .ok (.aload_n 0, 1) := by decide +kernel
theorem dX1_readOneLetter_55 : decode cX1_readOneLetter 55 = .ok (.getfield 23, 3) := by decide +kernel
theorem dX1_readOneLetter_58 : decode cX1_readOneLetter 58 = .ok (.iload_n 1, 1) := by decide +kernel
theorem dX1_readOneLetter_59 : decode cX1_readOneLetter 59 = .ok (.iaload, 1) := by decide +kernel
theorem dX1_readOneLetter_60 : decode cX1_readOneLetter 60 = .ok (.iadd, 1) := by decide +kernel
theorem dX1_readOneLetter_61 : decode cX1_readOneLetter 61 = .ok (.iastore, 1) := by decide +kernel
theorem dX1_readOneLetter_62 : decode cX1_readOneLetter 62 = .ok (.iinc 2 1, 3) := by decide +kernel
theorem dX1_readOneLetter_65 : decode cX1_readOneLetter 65 = .ok (.goto (-45), 3) := by decide +kernel
theorem dX1_readOneLetter_68 : decode cX1_readOneLetter 68 = .ok (.iinc 1 1, 3) := by decide +kernel
theorem dX1_readOneLetter_71 : decode cX1_readOneLetter 71 = .ok (.goto (-61), 3) := by decide +kernel
theorem dX1_readOneLetter_74 : decode cX1_readOneLetter 74 = .ok (.aload_n 0, 1) := by decide +kernel
theorem dX1_readOneLetter_75 : decode cX1_readOneLetter 75 = .ok (.getfield 23, 3) := by decide +kernel
theorem dX1_readOneLetter_78 : decode cX1_readOneLetter 78 = .ok (.astore_n 1, 1) := by decide +kernel
theorem dX1_readOneLetter_79 : decode cX1_readOneLetter 79 = .ok (.aload_n 0, 1) := by decide +kernel
theorem dX1_readOneLetter_80 : decode cX1_readOneLetter 80 = .ok (.aload_n 0, 1) := by decide +kernel
theorem dX1_readOneLetter_81 : decode cX1_readOneLetter 81 = .ok (.getfield 26, 3) := by decide +kernel
theorem dX1_readOneLetter_84 : decode cX1_readOneLetter 84 = .ok (.putfield 23, 3) := by decide +kernel
theorem dX1_readOneLetter_87 : decode cX1_readOneLetter 87 = .ok (.aload_n 0, 1) := by decide +kernel
theorem dX1_readOneLetter_88 : decode cX1_readOneLetter 88 = .ok (.aload_n 1, 1) := by decide +kernel
theorem dX1_readOneLetter_89 : decode cX1_readOneLetter 89 = .ok (.putfield 26, 3) := by decide +kernel
theorem dX1_readOneLetter_92 : decode cX1_readOneLetter 92 = .ok (.return_, 1) := by decide +kernel
abbrev rmX1_readOneLetter : Room := { frames := 1, cells := 0, slots := 0, locals := 23 }
noncomputable def fLX1_readOneLetter_20 (x0 : Nat) (x1 : Int32) (a : Int32 × St) : Option ((Int32 × St) ⊕ (St)) :=
(gR a.2 x0 1 0).bind fun v22 =>
(gI a.2 v22 8 0).bind fun v25 =>
if v25 ≤ a.1 then
(some (Sum.inr a.2))
else
((gR a.2 x0 1 3).bind fun v32 =>
(aI a.2 v32 0 ((x1 * 5) + a.1)).bind fun v40 =>
if v40 = (((-1) : Int32)) then
(xlet (a.1 + 1) fun v62 =>
some (Sum.inl (v62, a.2)))
else
((gR a.2 x0 1 5).bind fun v48 =>
(aI a.2 v48 0 v40).bind fun v53 =>
(gR a.2 x0 1 4).bind fun v55 =>
(aI a.2 v55 0 x1).bind fun v59 =>
(sI a.2 v48 v40 (v53 + v59)).bind fun σ61 =>
xlet (a.1 + 1) fun v62 =>
some (Sum.inl (v62, σ61))))
set_option maxHeartbeats 4000000 in
set_option maxRecDepth 100000 in
theorem lpX1_readOneLetter_20 {X : xX} {x0 : Nat} {x1 : Int32}  {a0 : Int32 × St} {b : St} (C : Ok X cX1_readOneLetter 4 RX1 rmX1_readOneLetter none) (hb : iterP (fLX1_readOneLetter_20 x0 x1) a0 = some b) (hy0 : ∀ s, b = s → V X (0, 0) s 68 [(0, .ref (x0)), (1, .int (x1))] []) : V X (0, 0) a0.2 20 [(0, .ref (x0)), (1, .int (x1)), (2, .int (a0.1))] [] := by
  obtain ⟨n, hn⟩ := iterP_some hb
  refine x_loop (P := fun a => V X (0, 0) a.2 20 [(0, .ref (x0)), (1, .int (x1)), (2, .int (a.1))] []) ?_ n a0 hn
  intro a c hf hK hxx
  have hx0 : ∀ s, c = Sum.inr s → V X (0, 0) s 68 [(0, .ref (x0)), (1, .int (x1))] [] := fun s e => hy0 s (hxx _ e).symm
  unfold fLX1_readOneLetter_20 at hf
  refine x_iload_n C dX1_readOneLetter_20 21 rfl 2 rfl rfl ?_
  refine x_aload_n C dX1_readOneLetter_21 22 rfl 0 rfl rfl ?_
  obtain ⟨v22, hv22, hf⟩ := x_bind hf
  refine x_getR C dX1_readOneLetter_22 25 rfl hv22 cl1 rfl w411 ?_
  obtain ⟨v25, hv25, hf⟩ := x_bind hf
  refine x_getI C dX1_readOneLetter_25 28 rfl hv25 cl8 rfl w179 ?_
  refine x_icmp_ge C dX1_readOneLetter_28 68 (by decide) 31 rfl (fun hc => ?_) (fun hc => ?_)
  · have hf := (if_pos hc).symm.trans hf
    refine x_lv [0, 1] (lv' := [(0, .ref (x0)), (1, .int (x1))]) rfl ?_
    exact hx0 _ (Option.some.inj hf).symm
  · have hf := (if_neg hc).symm.trans hf
    refine x_aload_n C dX1_readOneLetter_31 32 rfl 0 rfl rfl ?_
    obtain ⟨v32, hv32, hf⟩ := x_bind hf
    refine x_getR C dX1_readOneLetter_32 35 rfl hv32 cl1 rfl w414 ?_
    refine x_iload_n C dX1_readOneLetter_35 36 rfl 1 rfl rfl ?_
    refine x_iconst C dX1_readOneLetter_36 37 rfl 5 (by decide) ?_
    refine x_imul C dX1_readOneLetter_37 38 rfl ?_
    refine x_iload_n C dX1_readOneLetter_38 39 rfl 2 rfl rfl ?_
    refine x_iadd C dX1_readOneLetter_39 40 rfl ?_
    obtain ⟨v40, hv40, hf⟩ := x_bind hf
    refine x_iaload C dX1_readOneLetter_40 41 rfl hv40 ?_
    refine x_istore_n C dX1_readOneLetter_41 42 rfl rfl rfl [(3, .int (v40)), (0, .ref (x0)), (1, .int (x1)), (2, .int (a.1))] rfl ?_
    refine x_iload_n C dX1_readOneLetter_42 43 rfl 0 rfl rfl ?_
    refine x_iconst C dX1_readOneLetter_43 44 rfl (-1) (by decide) ?_
    refine x_icmp_eq C dX1_readOneLetter_44 62 (by decide) 47 rfl (fun hc => ?_) (fun hc => ?_)
    · have hf := (if_pos hc).symm.trans hf
      obtain ⟨v62, ev62, hf⟩ := xlet_some hf
      refine x_iinc C dX1_readOneLetter_62 65 rfl 3 rfl v62 ev62 rfl [(2, .int (v62)), (3, .int (v40)), (0, .ref (x0)), (1, .int (x1))] rfl ?_
      refine x_goto C dX1_readOneLetter_65 20 (by decide) ?_
      refine x_lv [2, 3, 0] (lv' := [(0, .ref (x0)), (1, .int (x1)), (2, .int (v62))]) rfl ?_
      exact hK _ (Option.some.inj hf).symm
    · have hf := (if_neg hc).symm.trans hf
      refine x_aload_n C dX1_readOneLetter_47 48 rfl 1 rfl rfl ?_
      obtain ⟨v48, hv48, hf⟩ := x_bind hf
      refine x_getR C dX1_readOneLetter_48 51 rfl hv48 cl1 rfl w416 ?_
      refine x_iload_n C dX1_readOneLetter_51 52 rfl 0 rfl rfl ?_
      refine x_dup2 C dX1_readOneLetter_52 53 rfl rfl rfl ?_
      obtain ⟨v53, hv53, hf⟩ := x_bind hf
      refine x_iaload C dX1_readOneLetter_53 54 rfl hv53 ?_
      refine x_aload_n C dX1_readOneLetter_54 55 rfl 1 rfl rfl ?_
      obtain ⟨v55, hv55, hf⟩ := x_bind hf
      refine x_getR C dX1_readOneLetter_55 58 rfl hv55 cl1 rfl w415 ?_
      refine x_iload_n C dX1_readOneLetter_58 59 rfl 2 rfl rfl ?_
      obtain ⟨v59, hv59, hf⟩ := x_bind hf
      refine x_iaload C dX1_readOneLetter_59 60 rfl hv59 ?_
      refine x_iadd C dX1_readOneLetter_60 61 rfl ?_
      obtain ⟨σ61, hσ61, hf⟩ := x_bind hf
      refine x_iastore C dX1_readOneLetter_61 62 rfl hσ61 ?_
      obtain ⟨v62, ev62, hf⟩ := xlet_some hf
      refine x_iinc C dX1_readOneLetter_62 65 rfl 3 rfl v62 ev62 rfl [(2, .int (v62)), (3, .int (v40)), (0, .ref (x0)), (1, .int (x1))] rfl ?_
      refine x_goto C dX1_readOneLetter_65 20 (by decide) ?_
      refine x_lv [2, 3, 0] (lv' := [(0, .ref (x0)), (1, .int (x1)), (2, .int (v62))]) rfl ?_
      exact hK _ (Option.some.inj hf).symm
noncomputable def fLX1_readOneLetter_10 (x0 : Nat) (a : Int32 × St) : Option ((Int32 × St) ⊕ (St)) :=
(gI a.2 x0 1 2).bind fun v12 =>
if v12 ≤ a.1 then
(some (Sum.inr a.2))
else
((iterP (fLX1_readOneLetter_20 x0 a.1) (0, a.2)).bind fun b20 =>
xlet (a.1 + 1) fun v68 =>
some (Sum.inl (v68, b20)))
set_option maxHeartbeats 4000000 in
set_option maxRecDepth 100000 in
theorem lpX1_readOneLetter_10 {X : xX} {x0 : Nat}  {a0 : Int32 × St} {b : St} (C : Ok X cX1_readOneLetter 4 RX1 rmX1_readOneLetter none) (hb : iterP (fLX1_readOneLetter_10 x0) a0 = some b) (hy0 : ∀ s, b = s → V X (0, 0) s 74 [(0, .ref (x0))] []) : V X (0, 0) a0.2 10 [(0, .ref (x0)), (1, .int (a0.1))] [] := by
  obtain ⟨n, hn⟩ := iterP_some hb
  refine x_loop (P := fun a => V X (0, 0) a.2 10 [(0, .ref (x0)), (1, .int (a.1))] []) ?_ n a0 hn
  intro a c hf hK hxx
  have hx0 : ∀ s, c = Sum.inr s → V X (0, 0) s 74 [(0, .ref (x0))] [] := fun s e => hy0 s (hxx _ e).symm
  unfold fLX1_readOneLetter_10 at hf
  refine x_iload_n C dX1_readOneLetter_10 11 rfl 1 rfl rfl ?_
  refine x_aload_n C dX1_readOneLetter_11 12 rfl 0 rfl rfl ?_
  obtain ⟨v12, hv12, hf⟩ := x_bind hf
  refine x_getI C dX1_readOneLetter_12 15 rfl hv12 cl1 rfl w413 ?_
  refine x_icmp_ge C dX1_readOneLetter_15 74 (by decide) 18 rfl (fun hc => ?_) (fun hc => ?_)
  · have hf := (if_pos hc).symm.trans hf
    refine x_lv [0] (lv' := [(0, .ref (x0))]) rfl ?_
    exact hx0 _ (Option.some.inj hf).symm
  · have hf := (if_neg hc).symm.trans hf
    refine x_iconst C dX1_readOneLetter_18 19 rfl 0 (by decide) ?_
    refine x_istore_n C dX1_readOneLetter_19 20 rfl rfl rfl [(2, .int (0)), (0, .ref (x0)), (1, .int (a.1))] rfl ?_
    obtain ⟨b20, hb20, hf⟩ := x_bind hf
    refine x_lv [1, 2, 0] (lv' := [(0, .ref (x0)), (1, .int (a.1)), (2, .int (0))]) rfl ?_
    refine lpX1_readOneLetter_20 C hb20 (fun s20 e20 => ?_)
    subst e20
    obtain ⟨v68, ev68, hf⟩ := xlet_some hf
    refine x_iinc C dX1_readOneLetter_68 71 rfl 1 rfl v68 ev68 rfl [(1, .int (v68)), (0, .ref (x0))] rfl ?_
    refine x_goto C dX1_readOneLetter_71 10 (by decide) ?_
    refine x_lv [1, 0] (lv' := [(0, .ref (x0)), (1, .int (v68))]) rfl ?_
    exact hK _ (Option.some.inj hf).symm
noncomputable def fX1_readOneLetter (σ : St) (x0 : Nat) : Option (St) :=
(gR σ x0 1 5).bind fun v1 =>
(fJ7_fill_53178 σ v1 0).bind fun w5 =>
(iterP (fLX1_readOneLetter_10 x0) (0, w5)).bind fun b10 =>
(gR b10 x0 1 4).bind fun v75 =>
(gR b10 x0 1 5).bind fun v81 =>
(wrF b10 x0 1 4 (.ref (v81))).bind fun σ84 =>
(wrF σ84 x0 1 5 (.ref (v75))).bind fun σ89 =>
some σ89
set_option maxHeartbeats 4000000 in
set_option maxRecDepth 100000 in
theorem cX1_readOneLetterc {l : Launch} {G : xG} {A : Nat → Prop} {σ : St} {x0 : Nat} {c : St} (hf : fX1_readOneLetter σ x0 = some c) : Con l yX1_readOneLetter (xws yX1_readOneLetter cX1_readOneLetter 4 none) rmX1_readOneLetter [.ref (x0)] G A σ none c := by
  refine x_start rfl (Nat.le_of_ble_eq_true rfl) (fun X _ _ _ C hE0 => ?_)
  have hE : ∀ r, c = r → xE1 X none r := fun r e => e ▸ hE0
  show V X (0, 0) σ 0 [(0, .ref (x0))] []
  unfold fX1_readOneLetter at hf
  refine x_aload_n C dX1_readOneLetter_0 1 rfl 0 rfl rfl ?_
  obtain ⟨v1, hv1, hf⟩ := x_bind hf
  refine x_getR C dX1_readOneLetter_1 4 rfl hv1 cl1 rfl w416 ?_
  refine x_iconst C dX1_readOneLetter_4 5 rfl 0 (by decide) ?_
  obtain ⟨w5, hw5, hf⟩ := x_bind hf
  refine x_callSv C dX1_readOneLetter_5 8 rfl (cJ7_fill_53178c hw5) kJ7_fill_53178 ksJ7_fill_53178 w1392 ⟨rfl, rfl⟩ ⟨Nat.le_of_ble_eq_true rfl, Nat.le_of_ble_eq_true rfl⟩ ⟨Nat.zero_le _, Nat.zero_le _⟩ rfl rfl (Nat.le_of_ble_eq_true rfl) ?_
  refine x_iconst C dX1_readOneLetter_8 9 rfl 0 (by decide) ?_
  refine x_istore_n C dX1_readOneLetter_9 10 rfl rfl rfl [(1, .int (0)), (0, .ref (x0))] rfl ?_
  obtain ⟨b10, hb10, hf⟩ := x_bind hf
  refine x_lv [1, 0] (lv' := [(0, .ref (x0)), (1, .int (0))]) rfl ?_
  refine lpX1_readOneLetter_10 C hb10 (fun s10 e10 => ?_)
  subst e10
  refine x_aload_n C dX1_readOneLetter_74 75 rfl 0 rfl rfl ?_
  obtain ⟨v75, hv75, hf⟩ := x_bind hf
  refine x_getR C dX1_readOneLetter_75 78 rfl hv75 cl1 rfl w415 ?_
  refine x_astore_n C dX1_readOneLetter_78 79 rfl rfl rfl [(1, .ref (v75)), (0, .ref (x0))] rfl ?_
  refine x_aload_n C dX1_readOneLetter_79 80 rfl 1 rfl rfl ?_
  refine x_aload_n C dX1_readOneLetter_80 81 rfl 1 rfl rfl ?_
  obtain ⟨v81, hv81, hf⟩ := x_bind hf
  refine x_getR C dX1_readOneLetter_81 84 rfl hv81 cl1 rfl w416 ?_
  obtain ⟨σ84, hσ84, hf⟩ := x_bind hf
  refine x_putX C dX1_readOneLetter_84 87 rfl hσ84 cl1 rfl w415 rfl rfl rfl ?_
  refine x_aload_n C dX1_readOneLetter_87 88 rfl 1 rfl rfl ?_
  refine x_aload_n C dX1_readOneLetter_88 89 rfl 0 rfl rfl ?_
  obtain ⟨σ89, hσ89, hf⟩ := x_bind hf
  refine x_putX C dX1_readOneLetter_89 92 rfl hσ89 cl1 rfl w416 rfl rfl rfl ?_
  exact x_vret C (hE _ (Option.some.inj hf).symm) dX1_readOneLetter_92
theorem dX1_countOf_0 : decode cX1_countOf 0 = .ok (.aload_n 0, 1) := by decide +kernel
theorem dX1_countOf_1 : decode cX1_countOf 1 = .ok (.invokevirtual 33, 3) := by decide +kernel
theorem dX1_countOf_4 : decode cX1_countOf 4 = .ok (.aload_n 0, 1) := by decide +kernel
theorem dX1_countOf_5 : decode cX1_countOf 5 = .ok (.invokevirtual 36, 3) := by decide +kernel
theorem dX1_countOf_8 : decode cX1_countOf 8 = .ok (.aload_n 0, 1) := by decide +kernel
theorem dX1_countOf_9 : decode cX1_countOf 9 = .ok (.getfield 23, 3) := by decide +kernel
theorem dX1_countOf_12 : decode cX1_countOf 12 = .ok (.iconst 0, 1) := by decide +kernel
theorem dX1_countOf_13 : decode cX1_countOf 13 = .ok (.invokestatic 39, 3) := by decide +kernel
theorem dX1_countOf_16 : decode cX1_countOf 16 = .ok (.aload_n 0, 1) := by decide +kernel
theorem dX1_countOf_17 : decode cX1_countOf 17 = .ok (.getfield 23, 3) := by decide +kernel
theorem dX1_countOf_20 : decode cX1_countOf 20 = .ok (.iconst 0, 1) := by decide +kernel
theorem dX1_countOf_21 : decode cX1_countOf 21 = .ok (.iconst 1, 1) := by decide +kernel
theorem dX1_countOf_22 : decode cX1_countOf 22 = .ok (.iastore, 1) := by decide +kernel
theorem dX1_countOf_23 : decode cX1_countOf 23 = .ok (.iconst 0, 1) := by decide +kernel
theorem dX1_countOf_24 : decode cX1_countOf 24 = .ok (.istore_n 2, 1) := by decide +kernel
theorem dX1_countOf_25 : decode cX1_countOf 25 = .ok (.iload_n 2, 1) := by decide +kernel
theorem dX1_countOf_26 : decode cX1_countOf 26 = .ok (.iload_n 1, 1) := by decide +kernel
theorem dX1_countOf_27 : decode cX1_countOf 27 = .ok (.if_icmp .ge 13, 3) := by decide +kernel
theorem dX1_countOf_30 : decode cX1_countOf 30 = .ok (.aload_n 0, 1) := by decide +kernel
theorem dX1_countOf_31 : decode cX1_countOf 31 = .ok (.invokevirtual 45, 3) := by decide +kernel
theorem dX1_countOf_34 : decode cX1_countOf 34 = .ok (.iinc 2 1, 3) := by decide +kernel
theorem dX1_countOf_37 : decode cX1_countOf 37 = .ok (.goto (-12), 3) := by decide +kernel
theorem dX1_countOf_40 : decode cX1_countOf 40 = .ok (.iconst 0, 1) := by decide +kernel
theorem dX1_countOf_41 : decode cX1_countOf 41 = .ok (.istore_n 2, 1) := by decide +kernel
theorem dX1_countOf_42 : decode cX1_countOf 42 = .ok (.iconst 0, 1) := by decide +kernel
theorem dX1_countOf_43 : decode cX1_countOf 43 = .ok (.istore_n 3, 1) := by decide +kernel
theorem dX1_countOf_44 : decode cX1_countOf 44 = .ok (.iload_n 3, 1) := by decide +kernel
theorem dX1_countOf_45 : decode cX1_countOf 45 = .ok (.aload_n 0, 1) := by decide +kernel
theorem dX1_countOf_46 : decode cX1_countOf 46 = .ok (.getfield 15, 3) := by decide +kernel
theorem dX1_countOf_49 : decode cX1_countOf 49 = .ok (.if_icmp .ge 18, 3) := by decide +kernel
theorem dX1_countOf_52 : decode cX1_countOf 52 = .ok (.iload_n 2, 1) := by decide +kernel
theorem dX1_countOf_53 : decode cX1_countOf 53 = .ok (.aload_n 0, 1) := by decide +kernel
theorem dX1_countOf_54 : decode cX1_countOf 54 = .ok (.getfield 23, 3) := by decide +kernel
theorem dX1_countOf_57 : decode cX1_countOf 57 = .ok (.iload_n 3, 1) := by decide +kernel
theorem dX1_countOf_58 : decode cX1_countOf 58 = .ok (.iaload, 1) := by decide +kernel
theorem dX1_countOf_59 : decode cX1_countOf 59 = .ok (.iadd, 1) := by decide +kernel
theorem dX1_countOf_60 : decode cX1_countOf 60 = .ok (.istore_n 2, 1) := by decide +kernel
theorem dX1_countOf_61 : decode cX1_countOf 61 = .ok (.iinc 3 1, 3) := by decide +kernel
theorem dX1_countOf_64 : decode cX1_countOf 64 = .ok (.goto (-20), 3) := by decide +kernel
theorem dX1_countOf_67 : decode cX1_countOf 67 = .ok (.iload_n 2, 1) := by decide +kernel
theorem dX1_countOf_68 : decode cX1_countOf 68 = .ok (.ireturn, 1) := by decide +kernel
abbrev rmX1_countOf : Room := { frames := 3, cells := 0, slots := 0, locals := 73 }
noncomputable def fLX1_countOf_25 (x0 : Nat) (x1 : Int32) (a : Int32 × St) : Option ((Int32 × St) ⊕ (St)) :=
if x1 ≤ a.1 then
(some (Sum.inr a.2))
else
((isO a.2 x0 1).bind fun _ =>
(fX1_readOneLetter a.2 x0).bind fun w31 =>
xlet (a.1 + 1) fun v34 =>
some (Sum.inl (v34, w31)))
set_option maxHeartbeats 4000000 in
set_option maxRecDepth 100000 in
theorem lpX1_countOf_25 {X : xX} {x0 : Nat} {x1 : Int32}  {a0 : Int32 × St} {b : St} (C : Ok X cX1_countOf 4 RX1 rmX1_countOf (some .int)) (hb : iterP (fLX1_countOf_25 x0 x1) a0 = some b) (hy0 : ∀ s, b = s → V X (0, 0) s 40 [(0, .ref (x0))] []) : V X (0, 0) a0.2 25 [(0, .ref (x0)), (1, .int (x1)), (2, .int (a0.1))] [] := by
  obtain ⟨n, hn⟩ := iterP_some hb
  refine x_loop (P := fun a => V X (0, 0) a.2 25 [(0, .ref (x0)), (1, .int (x1)), (2, .int (a.1))] []) ?_ n a0 hn
  intro a c hf hK hxx
  have hx0 : ∀ s, c = Sum.inr s → V X (0, 0) s 40 [(0, .ref (x0))] [] := fun s e => hy0 s (hxx _ e).symm
  unfold fLX1_countOf_25 at hf
  refine x_iload_n C dX1_countOf_25 26 rfl 2 rfl rfl ?_
  refine x_iload_n C dX1_countOf_26 27 rfl 1 rfl rfl ?_
  refine x_icmp_ge C dX1_countOf_27 40 (by decide) 30 rfl (fun hc => ?_) (fun hc => ?_)
  · have hf := (if_pos hc).symm.trans hf
    refine x_lv [0] (lv' := [(0, .ref (x0))]) rfl ?_
    exact hx0 _ (Option.some.inj hf).symm
  · have hf := (if_neg hc).symm.trans hf
    refine x_aload_n C dX1_countOf_30 31 rfl 0 rfl rfl ?_
    obtain ⟨o31, ho31, hf⟩ := x_bind hf
    obtain ⟨w31, hw31, hf⟩ := x_bind hf
    refine x_callVv C dX1_countOf_31 34 rfl ho31 cl1.1 rfl (cX1_readOneLetterc hw31) kX1_readOneLetter kvX1_readOneLetter w1393 ⟨rfl, rfl⟩ ⟨Nat.le_of_ble_eq_true rfl, Nat.le_of_ble_eq_true rfl⟩ ⟨Nat.zero_le _, Nat.zero_le _⟩ rfl rfl (Nat.le_of_ble_eq_true rfl) ?_
    obtain ⟨v34, ev34, hf⟩ := xlet_some hf
    refine x_iinc C dX1_countOf_34 37 rfl 2 rfl v34 ev34 rfl [(2, .int (v34)), (0, .ref (x0)), (1, .int (x1))] rfl ?_
    refine x_goto C dX1_countOf_37 25 (by decide) ?_
    refine x_lv [1, 2, 0] (lv' := [(0, .ref (x0)), (1, .int (x1)), (2, .int (v34))]) rfl ?_
    exact hK _ (Option.some.inj hf).symm
noncomputable def fLX1_countOf_44 (σ : St) (x0 : Nat) (a : Int32 × Int32) : Option ((Int32 × Int32) ⊕ (Int32)) :=
(gI σ x0 1 2).bind fun v46 =>
if v46 ≤ a.2 then
(some (Sum.inr a.1))
else
((gR σ x0 1 4).bind fun v54 =>
(aI σ v54 0 a.2).bind fun v58 =>
xlet (a.1 + v58) fun v60 =>
xlet (a.2 + 1) fun v61 =>
some (Sum.inl (v60, v61)))
set_option maxHeartbeats 4000000 in
set_option maxRecDepth 100000 in
theorem lpX1_countOf_44 {X : xX} {σ : St} {x0 : Nat}  {a0 : Int32 × Int32} {b : Int32} (C : Ok X cX1_countOf 4 RX1 rmX1_countOf (some .int)) (hb : iterP (fLX1_countOf_44 σ x0) a0 = some b) (hy0 : ∀ s, b = s → V X (0, 0) σ 67 [(2, .int (s))] []) : V X (0, 0) σ 44 [(0, .ref (x0)), (2, .int (a0.1)), (3, .int (a0.2))] [] := by
  obtain ⟨n, hn⟩ := iterP_some hb
  refine x_loop (P := fun a => V X (0, 0) σ 44 [(0, .ref (x0)), (2, .int (a.1)), (3, .int (a.2))] []) ?_ n a0 hn
  intro a c hf hK hxx
  have hx0 : ∀ s, c = Sum.inr s → V X (0, 0) σ 67 [(2, .int (s))] [] := fun s e => hy0 s (hxx _ e).symm
  unfold fLX1_countOf_44 at hf
  refine x_iload_n C dX1_countOf_44 45 rfl 2 rfl rfl ?_
  refine x_aload_n C dX1_countOf_45 46 rfl 0 rfl rfl ?_
  obtain ⟨v46, hv46, hf⟩ := x_bind hf
  refine x_getI C dX1_countOf_46 49 rfl hv46 cl1 rfl w413 ?_
  refine x_icmp_ge C dX1_countOf_49 67 (by decide) 52 rfl (fun hc => ?_) (fun hc => ?_)
  · have hf := (if_pos hc).symm.trans hf
    refine x_lv [1] (lv' := [(2, .int (a.1))]) rfl ?_
    exact hx0 _ (Option.some.inj hf).symm
  · have hf := (if_neg hc).symm.trans hf
    refine x_iload_n C dX1_countOf_52 53 rfl 1 rfl rfl ?_
    refine x_aload_n C dX1_countOf_53 54 rfl 0 rfl rfl ?_
    obtain ⟨v54, hv54, hf⟩ := x_bind hf
    refine x_getR C dX1_countOf_54 57 rfl hv54 cl1 rfl w415 ?_
    refine x_iload_n C dX1_countOf_57 58 rfl 2 rfl rfl ?_
    obtain ⟨v58, hv58, hf⟩ := x_bind hf
    refine x_iaload C dX1_countOf_58 59 rfl hv58 ?_
    refine x_iadd C dX1_countOf_59 60 rfl ?_
    obtain ⟨v60, ev60, hf⟩ := xlet_some hf
    refine x_topi ev60 ?_
    refine x_istore_n C dX1_countOf_60 61 rfl rfl rfl [(2, .int (v60)), (0, .ref (x0)), (3, .int (a.2))] rfl ?_
    obtain ⟨v61, ev61, hf⟩ := xlet_some hf
    refine x_iinc C dX1_countOf_61 64 rfl 2 rfl v61 ev61 rfl [(3, .int (v61)), (2, .int (v60)), (0, .ref (x0))] rfl ?_
    refine x_goto C dX1_countOf_64 44 (by decide) ?_
    refine x_lv [2, 1, 0] (lv' := [(0, .ref (x0)), (2, .int (v60)), (3, .int (v61))]) rfl ?_
    exact hK _ (Option.some.inj hf).symm
noncomputable def fX1_countOf (σ : St) (x0 : Nat) (x1 : Int32) : Option ((Int32 × St)) :=
(isO σ x0 1).bind fun _ =>
(fX1_gatherStates σ x0).bind fun w1 =>
(isO w1 x0 1).bind fun _ =>
(fX1_linkStates w1 x0).bind fun w5 =>
(gR w5 x0 1 4).bind fun v9 =>
(fJ7_fill_53178 w5 v9 0).bind fun w13 =>
(gR w13 x0 1 4).bind fun v17 =>
(sI w13 v17 0 1).bind fun σ22 =>
(iterP (fLX1_countOf_25 x0 x1) (0, σ22)).bind fun b25 =>
(iterP (fLX1_countOf_44 b25 x0) (0, 0)).bind fun b44 =>
some (b44, b25)
set_option maxHeartbeats 4000000 in
set_option maxRecDepth 100000 in
theorem cX1_countOfc {l : Launch} {G : xG} {A : Nat → Prop} {σ : St} {x0 : Nat} {x1 : Int32} {c : (Int32 × St)} (hf : fX1_countOf σ x0 x1 = some c) : Con l yX1_countOf (xws yX1_countOf cX1_countOf 4 (some .int)) rmX1_countOf [.ref (x0), .int (x1)] G A σ (some (.int c.1)) c.2 := by
  refine x_start rfl (Nat.le_of_ble_eq_true rfl) (fun X _ _ _ C hE0 => ?_)
  have hE : ∀ r, c = r → xE1 X (some (.int r.1)) r.2 := fun r e => e ▸ hE0
  show V X (0, 0) σ 0 [(0, .ref (x0)), (1, .int (x1))] []
  unfold fX1_countOf at hf
  refine x_aload_n C dX1_countOf_0 1 rfl 0 rfl rfl ?_
  obtain ⟨o1, ho1, hf⟩ := x_bind hf
  obtain ⟨w1, hw1, hf⟩ := x_bind hf
  refine x_callVv C dX1_countOf_1 4 rfl ho1 cl1.1 rfl (cX1_gatherStatesc hw1) kX1_gatherStates kvX1_gatherStates w1369 ⟨rfl, rfl⟩ ⟨Nat.le_of_ble_eq_true rfl, Nat.le_of_ble_eq_true rfl⟩ ⟨Nat.zero_le _, Nat.zero_le _⟩ rfl rfl (Nat.le_of_ble_eq_true rfl) ?_
  refine x_aload_n C dX1_countOf_4 5 rfl 0 rfl rfl ?_
  obtain ⟨o5, ho5, hf⟩ := x_bind hf
  obtain ⟨w5, hw5, hf⟩ := x_bind hf
  refine x_callVv C dX1_countOf_5 8 rfl ho5 cl1.1 rfl (cX1_linkStatesc hw5) kX1_linkStates kvX1_linkStates w1379 ⟨rfl, rfl⟩ ⟨Nat.le_of_ble_eq_true rfl, Nat.le_of_ble_eq_true rfl⟩ ⟨Nat.zero_le _, Nat.zero_le _⟩ rfl rfl (Nat.le_of_ble_eq_true rfl) ?_
  refine x_aload_n C dX1_countOf_8 9 rfl 0 rfl rfl ?_
  obtain ⟨v9, hv9, hf⟩ := x_bind hf
  refine x_getR C dX1_countOf_9 12 rfl hv9 cl1 rfl w415 ?_
  refine x_iconst C dX1_countOf_12 13 rfl 0 (by decide) ?_
  obtain ⟨w13, hw13, hf⟩ := x_bind hf
  refine x_callSv C dX1_countOf_13 16 rfl (cJ7_fill_53178c hw13) kJ7_fill_53178 ksJ7_fill_53178 w1392 ⟨rfl, rfl⟩ ⟨Nat.le_of_ble_eq_true rfl, Nat.le_of_ble_eq_true rfl⟩ ⟨Nat.zero_le _, Nat.zero_le _⟩ rfl rfl (Nat.le_of_ble_eq_true rfl) ?_
  refine x_aload_n C dX1_countOf_16 17 rfl 0 rfl rfl ?_
  obtain ⟨v17, hv17, hf⟩ := x_bind hf
  refine x_getR C dX1_countOf_17 20 rfl hv17 cl1 rfl w415 ?_
  refine x_iconst C dX1_countOf_20 21 rfl 0 (by decide) ?_
  refine x_iconst C dX1_countOf_21 22 rfl 1 (by decide) ?_
  obtain ⟨σ22, hσ22, hf⟩ := x_bind hf
  refine x_iastore C dX1_countOf_22 23 rfl hσ22 ?_
  refine x_iconst C dX1_countOf_23 24 rfl 0 (by decide) ?_
  refine x_istore_n C dX1_countOf_24 25 rfl rfl rfl [(2, .int (0)), (0, .ref (x0)), (1, .int (x1))] rfl ?_
  obtain ⟨b25, hb25, hf⟩ := x_bind hf
  refine x_lv [1, 2, 0] (lv' := [(0, .ref (x0)), (1, .int (x1)), (2, .int (0))]) rfl ?_
  refine lpX1_countOf_25 C hb25 (fun s25 e25 => ?_)
  subst e25
  refine x_iconst C dX1_countOf_40 41 rfl 0 (by decide) ?_
  refine x_istore_n C dX1_countOf_41 42 rfl rfl rfl [(2, .int (0)), (0, .ref (x0))] rfl ?_
  refine x_iconst C dX1_countOf_42 43 rfl 0 (by decide) ?_
  refine x_istore_n C dX1_countOf_43 44 rfl rfl rfl [(3, .int (0)), (2, .int (0)), (0, .ref (x0))] rfl ?_
  obtain ⟨b44, hb44, hf⟩ := x_bind hf
  refine x_lv [2, 1, 0] (lv' := [(0, .ref (x0)), (2, .int (0)), (3, .int (0))]) rfl ?_
  refine lpX1_countOf_44 C hb44 (fun s44 e44 => ?_)
  subst e44
  refine x_iload_n C dX1_countOf_67 68 rfl 0 rfl rfl ?_
  exact x_iret C (hE _ (Option.some.inj hf).symm) dX1_countOf_68
theorem dX2_addStep_0 : decode cX2_addStep 0 = .ok (.aload_n 0, 1) := by decide +kernel
theorem dX2_addStep_1 : decode cX2_addStep 1 = .ok (.getfield 25, 3) := by decide +kernel
theorem dX2_addStep_4 : decode cX2_addStep 4 = .ok (.iload_n 1, 1) := by decide +kernel
theorem dX2_addStep_5 : decode cX2_addStep 5 = .ok (.iaload, 1) := by decide +kernel
theorem dX2_addStep_6 : decode cX2_addStep 6 = .ok (.bipush 40, 2) := by decide +kernel
theorem dX2_addStep_8 : decode cX2_addStep 8 = .ok (.if_icmp .lt 4, 3) := by decide +kernel
theorem dX2_addStep_11 : decode cX2_addStep 11 = .ok (.return_, 1) := by decide +kernel
theorem dX2_addStep_12 : decode cX2_addStep 12 = .ok (.aload_n 0, 1) := by decide +kernel
theorem dX2_addStep_13 : decode cX2_addStep 13 = .ok (.getfield 29, 3) := by decide +kernel
theorem dX2_addStep_16 : decode cX2_addStep 16 = .ok (.iload_n 1, 1) := by decide +kernel
theorem dX2_addStep_17 : decode cX2_addStep 17 = .ok (.bipush 40, 2) := by decide +kernel
theorem dX2_addStep_19 : decode cX2_addStep 19 = .ok (.imul, 1) := by decide +kernel
theorem dX2_addStep_20 : decode cX2_addStep 20 = .ok (.aload_n 0, 1) := by decide +kernel
theorem dX2_addStep_21 : decode cX2_addStep 21 = .ok (.getfield 25, 3) := by decide +kernel
theorem dX2_addStep_24 : decode cX2_addStep 24 = .ok (.iload_n 1, 1) := by decide +kernel
theorem dX2_addStep_25 : decode cX2_addStep 25 = .ok (.iaload, 1) := by decide +kernel
theorem dX2_addStep_26 : decode cX2_addStep 26 = .ok (.iadd, 1) := by decide +kernel
theorem dX2_addStep_27 : decode cX2_addStep 27 = .ok (.iload_n 2, 1) := by decide +kernel
theorem dX2_addStep_28 : decode cX2_addStep 28 = .ok (.iastore, 1) := by decide +kernel
theorem dX2_addStep_29 : decode cX2_addStep 29 = .ok (.aload_n 0, 1) := by decide +kernel
theorem dX2_addStep_30 : decode cX2_addStep 30 = .ok (.getfield 25, 3) := by decide +kernel
theorem dX2_addStep_33 : decode cX2_addStep 33 = .ok (.iload_n 1, 1) := by decide +kernel
theorem dX2_addStep_34 : decode cX2_addStep 34 = .ok (.dup2, 1) := by decide +kernel
theorem dX2_addStep_35 : decode cX2_addStep 35 = .ok (.iaload, 1) := by decide +kernel
theorem dX2_addStep_36 : decode cX2_addStep 36 = .ok (.iconst 1, 1) := by decide +kernel
theorem dX2_addStep_37 : decode cX2_addStep 37 = .ok (.iadd, 1) := by decide +kernel
theorem dX2_addStep_38 : decode cX2_addStep 38 = .ok (.iastore, 1) := by decide +kernel
theorem dX2_addStep_39 : decode cX2_addStep 39 = .ok (.aload_n 0, 1) := by decide +kernel
theorem dX2_addStep_40 : decode cX2_addStep 40 = .ok (.getfield 22, 3) := by decide +kernel
theorem dX2_addStep_43 : decode cX2_addStep 43 = .ok (.iload_n 1, 1) := by decide +kernel
theorem dX2_addStep_44 : decode cX2_addStep 44 = .ok (.aload_n 0, 1) := by decide +kernel
theorem dX2_addStep_45 : decode cX2_addStep 45 = .ok (.getfield 12, 3) := by decide +kernel
theorem dX2_addStep_48 : decode cX2_addStep 48 = .ok (.aload_n 0, 1) := by decide +kernel
theorem dX2_addStep_49 : decode cX2_addStep 49 = .ok (.getfield 22, 3) := by decide +kernel
theorem dX2_addStep_52 : decode cX2_addStep 52 = .ok (.iload_n 1, 1) := by decide +kernel
theorem dX2_addStep_53 : decode cX2_addStep 53 = .ok (.laload, 1) := by decide +kernel
theorem dX2_addStep_54 : decode cX2_addStep 54 = .ok (.iload_n 2, 1) := by decide +kernel
theorem dX2_addStep_55 : decode cX2_addStep 55 = .ok (.invokevirtual 46, 3) := by decide +kernel
theorem dX2_addStep_58 : decode cX2_addStep 58 = .ok (.lastore, 1) := by decide +kernel
theorem dX2_addStep_59 : decode cX2_addStep 59 = .ok (.return_, 1) := by decide +kernel
abbrev rmX2_addStep : Room := { frames := 2, cells := 0, slots := 0, locals := 60 }
noncomputable def fX2_addStep (σ : St) (x0 : Nat) (x1 : Int32) (x2 : Int32) : Option (St) :=
(gR σ x0 2 3).bind fun v1 =>
(aI σ v1 0 x1).bind fun v5 =>
if v5 < ((40 : Int32)) then
((gR σ x0 2 4).bind fun v13 =>
(gR σ x0 2 3).bind fun v21 =>
(aI σ v21 0 x1).bind fun v25 =>
(sI σ v13 ((x1 * 40) + v25) x2).bind fun σ28 =>
(gR σ28 x0 2 3).bind fun v30 =>
(aI σ28 v30 0 x1).bind fun v35 =>
(sI σ28 v30 x1 (v35 + 1)).bind fun σ38 =>
(gR σ38 x0 2 2).bind fun v40 =>
(gR σ38 x0 2 0).bind fun v45 =>
(gR σ38 x0 2 2).bind fun v49 =>
(aL σ38 v49 x1).bind fun v53 =>
(isO σ38 v45 8).bind fun _ =>
(fX8_after σ38 v45 v53 x2).bind fun w55 =>
(sL σ38 v40 x1 w55).bind fun σ58 =>
some σ58)
else
(some σ)
set_option maxHeartbeats 4000000 in
set_option maxRecDepth 100000 in
theorem cX2_addStepc {l : Launch} {G : xG} {A : Nat → Prop} {σ : St} {x0 : Nat} {x1 : Int32} {x2 : Int32} {c : St} (hf : fX2_addStep σ x0 x1 x2 = some c) : Con l yX2_addStep (xws yX2_addStep cX2_addStep 3 none) rmX2_addStep [.ref (x0), .int (x1), .int (x2)] G A σ none c := by
  refine x_start rfl (Nat.le_of_ble_eq_true rfl) (fun X _ _ _ C hE0 => ?_)
  have hE : ∀ r, c = r → xE1 X none r := fun r e => e ▸ hE0
  show V X (0, 0) σ 0 [(0, .ref (x0)), (1, .int (x1)), (2, .int (x2))] []
  unfold fX2_addStep at hf
  refine x_aload_n C dX2_addStep_0 1 rfl 0 rfl rfl ?_
  obtain ⟨v1, hv1, hf⟩ := x_bind hf
  refine x_getR C dX2_addStep_1 4 rfl hv1 cl2 rfl w242 ?_
  refine x_iload_n C dX2_addStep_4 5 rfl 1 rfl rfl ?_
  obtain ⟨v5, hv5, hf⟩ := x_bind hf
  refine x_iaload C dX2_addStep_5 6 rfl hv5 ?_
  refine x_bipush C dX2_addStep_6 8 rfl 40 (by decide) ?_
  refine x_icmp_lt C dX2_addStep_8 12 (by decide) 11 rfl (fun hc => ?_) (fun hc => ?_)
  · have hf := (if_pos hc).symm.trans hf
    refine x_aload_n C dX2_addStep_12 13 rfl 0 rfl rfl ?_
    obtain ⟨v13, hv13, hf⟩ := x_bind hf
    refine x_getR C dX2_addStep_13 16 rfl hv13 cl2 rfl w245 ?_
    refine x_iload_n C dX2_addStep_16 17 rfl 1 rfl rfl ?_
    refine x_bipush C dX2_addStep_17 19 rfl 40 (by decide) ?_
    refine x_imul C dX2_addStep_19 20 rfl ?_
    refine x_aload_n C dX2_addStep_20 21 rfl 0 rfl rfl ?_
    obtain ⟨v21, hv21, hf⟩ := x_bind hf
    refine x_getR C dX2_addStep_21 24 rfl hv21 cl2 rfl w242 ?_
    refine x_iload_n C dX2_addStep_24 25 rfl 1 rfl rfl ?_
    obtain ⟨v25, hv25, hf⟩ := x_bind hf
    refine x_iaload C dX2_addStep_25 26 rfl hv25 ?_
    refine x_iadd C dX2_addStep_26 27 rfl ?_
    refine x_iload_n C dX2_addStep_27 28 rfl 2 rfl rfl ?_
    obtain ⟨σ28, hσ28, hf⟩ := x_bind hf
    refine x_iastore C dX2_addStep_28 29 rfl hσ28 ?_
    refine x_aload_n C dX2_addStep_29 30 rfl 0 rfl rfl ?_
    obtain ⟨v30, hv30, hf⟩ := x_bind hf
    refine x_getR C dX2_addStep_30 33 rfl hv30 cl2 rfl w242 ?_
    refine x_iload_n C dX2_addStep_33 34 rfl 1 rfl rfl ?_
    refine x_dup2 C dX2_addStep_34 35 rfl rfl rfl ?_
    obtain ⟨v35, hv35, hf⟩ := x_bind hf
    refine x_iaload C dX2_addStep_35 36 rfl hv35 ?_
    refine x_iconst C dX2_addStep_36 37 rfl 1 (by decide) ?_
    refine x_iadd C dX2_addStep_37 38 rfl ?_
    obtain ⟨σ38, hσ38, hf⟩ := x_bind hf
    refine x_iastore C dX2_addStep_38 39 rfl hσ38 ?_
    refine x_aload_n C dX2_addStep_39 40 rfl 0 rfl rfl ?_
    obtain ⟨v40, hv40, hf⟩ := x_bind hf
    refine x_getR C dX2_addStep_40 43 rfl hv40 cl2 rfl w240 ?_
    refine x_iload_n C dX2_addStep_43 44 rfl 1 rfl rfl ?_
    refine x_aload_n C dX2_addStep_44 45 rfl 0 rfl rfl ?_
    obtain ⟨v45, hv45, hf⟩ := x_bind hf
    refine x_getR C dX2_addStep_45 48 rfl hv45 cl2 rfl w234 ?_
    refine x_aload_n C dX2_addStep_48 49 rfl 0 rfl rfl ?_
    obtain ⟨v49, hv49, hf⟩ := x_bind hf
    refine x_getR C dX2_addStep_49 52 rfl hv49 cl2 rfl w240 ?_
    refine x_iload_n C dX2_addStep_52 53 rfl 1 rfl rfl ?_
    obtain ⟨v53, hv53, hf⟩ := x_bind hf
    refine x_laload C dX2_addStep_53 54 rfl hv53 ?_
    refine x_iload_n C dX2_addStep_54 55 rfl 2 rfl rfl ?_
    obtain ⟨o55, ho55, hf⟩ := x_bind hf
    obtain ⟨w55, hw55, hf⟩ := x_bind hf
    refine x_callVl C dX2_addStep_55 58 rfl ho55 cl8.1 rfl (cX8_afterc hw55) kX8_after kvX8_after w1224 ⟨rfl, rfl⟩ ⟨Nat.le_of_ble_eq_true rfl, Nat.le_of_ble_eq_true rfl⟩ ⟨Nat.zero_le _, Nat.zero_le _⟩ rfl rfl (Nat.le_of_ble_eq_true rfl) ?_
    obtain ⟨σ58, hσ58, hf⟩ := x_bind hf
    refine x_lastore C dX2_addStep_58 59 rfl hσ58 ?_
    exact x_vret C (hE _ (Option.some.inj hf).symm) dX2_addStep_59
  · have hf := (if_neg hc).symm.trans hf
    exact x_vret C (hE _ (Option.some.inj hf).symm) dX2_addStep_11
theorem dX2_codeAt_0 : decode cX2_codeAt 0 = .ok (.aload_n 0, 1) := by decide +kernel
theorem dX2_codeAt_1 : decode cX2_codeAt 1 = .ok (.getfield 29, 3) := by decide +kernel
theorem dX2_codeAt_4 : decode cX2_codeAt 4 = .ok (.iload_n 1, 1) := by decide +kernel
theorem dX2_codeAt_5 : decode cX2_codeAt 5 = .ok (.bipush 40, 2) := by decide +kernel
theorem dX2_codeAt_7 : decode cX2_codeAt 7 = .ok (.imul, 1) := by decide +kernel
theorem dX2_codeAt_8 : decode cX2_codeAt 8 = .ok (.iload_n 2, 1) := by decide +kernel
theorem dX2_codeAt_9 : decode cX2_codeAt 9 = .ok (.iadd, 1) := by decide +kernel
theorem dX2_codeAt_10 : decode cX2_codeAt 10 = .ok (.iaload, 1) := by decide +kernel
theorem dX2_codeAt_11 : decode cX2_codeAt 11 = .ok (.ireturn, 1) := by decide +kernel
abbrev rmX2_codeAt : Room := { frames := 0, cells := 0, slots := 0, locals := 0 }
noncomputable def fX2_codeAt (σ : St) (x0 : Nat) (x1 : Int32) (x2 : Int32) : Option (Int32) :=
(gR σ x0 2 4).bind fun v1 =>
(aI σ v1 0 ((x1 * 40) + x2)).bind fun v10 =>
some v10
set_option maxHeartbeats 4000000 in
set_option maxRecDepth 100000 in
theorem cX2_codeAtc {l : Launch} {G : xG} {A : Nat → Prop} {σ : St} {x0 : Nat} {x1 : Int32} {x2 : Int32} {c : Int32} (hf : fX2_codeAt σ x0 x1 x2 = some c) : Con l yX2_codeAt (xws yX2_codeAt cX2_codeAt 3 (some .int)) rmX2_codeAt [.ref (x0), .int (x1), .int (x2)] G A σ (some (.int c)) σ := by
  refine x_start rfl (Nat.le_of_ble_eq_true rfl) (fun X _ _ _ C hE0 => ?_)
  have hE : ∀ r, c = r → xE1 X (some (.int r)) σ := fun r e => e ▸ hE0
  show V X (0, 0) σ 0 [(0, .ref (x0)), (1, .int (x1)), (2, .int (x2))] []
  unfold fX2_codeAt at hf
  refine x_aload_n C dX2_codeAt_0 1 rfl 0 rfl rfl ?_
  obtain ⟨v1, hv1, hf⟩ := x_bind hf
  refine x_getR C dX2_codeAt_1 4 rfl hv1 cl2 rfl w245 ?_
  refine x_iload_n C dX2_codeAt_4 5 rfl 1 rfl rfl ?_
  refine x_bipush C dX2_codeAt_5 7 rfl 40 (by decide) ?_
  refine x_imul C dX2_codeAt_7 8 rfl ?_
  refine x_iload_n C dX2_codeAt_8 9 rfl 2 rfl rfl ?_
  refine x_iadd C dX2_codeAt_9 10 rfl ?_
  obtain ⟨v10, hv10, hf⟩ := x_bind hf
  refine x_iaload C dX2_codeAt_10 11 rfl hv10 ?_
  exact x_iret C (hE _ (Option.some.inj hf).symm) dX2_codeAt_11
theorem dX2_emptyPlaces_0 : decode cX2_emptyPlaces 0 = .ok (.iconst 0, 1) := by decide +kernel
theorem dX2_emptyPlaces_1 : decode cX2_emptyPlaces 1 = .ok (.istore_n 1, 1) := by decide +kernel
theorem dX2_emptyPlaces_2 : decode cX2_emptyPlaces 2 = .ok (.iload_n 1, 1) := by decide +kernel
theorem dX2_emptyPlaces_3 : decode cX2_emptyPlaces 3 = .ok (.bipush 6, 2) := by decide +kernel
theorem dX2_emptyPlaces_5 : decode cX2_emptyPlaces 5 = .ok (.if_icmp .ge 15, 3) := by decide +kernel
theorem dX2_emptyPlaces_8 : decode cX2_emptyPlaces 8 = .ok (.aload_n 0, 1) := by decide +kernel
theorem dX2_emptyPlaces_9 : decode cX2_emptyPlaces 9 = .ok (.iload_n 1, 1) := by decide +kernel
theorem dX2_emptyPlaces_10 : decode cX2_emptyPlaces 10 = .ok (.lconst 0, 1) := by decide +kernel
theorem dX2_emptyPlaces_11 : decode cX2_emptyPlaces 11 = .ok (.invokevirtual 42, 3) := by decide +kernel
theorem dX2_emptyPlaces_14 : decode cX2_emptyPlaces 14 = .ok (.iinc 1 1, 3) := by decide +kernel
theorem dX2_emptyPlaces_17 : decode cX2_emptyPlaces 17 = .ok (.goto (-15), 3) := by decide +kernel
theorem dX2_emptyPlaces_20 : decode cX2_emptyPlaces 20 = .ok (.return_, 1) := by decide +kernel
abbrev rmX2_emptyPlaces : Room := { frames := 1, cells := 0, slots := 0, locals := 23 }
noncomputable def fLX2_emptyPlaces_2 (x0 : Nat) (a : Int32 × St) : Option ((Int32 × St) ⊕ (St)) :=
if ((6 : Int32)) ≤ a.1 then
(some (Sum.inr a.2))
else
((isO a.2 x0 2).bind fun _ =>
(fX2_begin a.2 x0 a.1 0).bind fun w11 =>
xlet (a.1 + 1) fun v14 =>
some (Sum.inl (v14, w11)))
set_option maxHeartbeats 4000000 in
set_option maxRecDepth 100000 in
theorem lpX2_emptyPlaces_2 {X : xX} {x0 : Nat}  {a0 : Int32 × St} {b : St} (C : Ok X cX2_emptyPlaces 2 RX2 rmX2_emptyPlaces none) (hb : iterP (fLX2_emptyPlaces_2 x0) a0 = some b) (hy0 : ∀ s, b = s → V X (0, 0) s 20 [] []) : V X (0, 0) a0.2 2 [(0, .ref (x0)), (1, .int (a0.1))] [] := by
  obtain ⟨n, hn⟩ := iterP_some hb
  refine x_loop (P := fun a => V X (0, 0) a.2 2 [(0, .ref (x0)), (1, .int (a.1))] []) ?_ n a0 hn
  intro a c hf hK hxx
  have hx0 : ∀ s, c = Sum.inr s → V X (0, 0) s 20 [] [] := fun s e => hy0 s (hxx _ e).symm
  unfold fLX2_emptyPlaces_2 at hf
  refine x_iload_n C dX2_emptyPlaces_2 3 rfl 1 rfl rfl ?_
  refine x_bipush C dX2_emptyPlaces_3 5 rfl 6 (by decide) ?_
  refine x_icmp_ge C dX2_emptyPlaces_5 20 (by decide) 8 rfl (fun hc => ?_) (fun hc => ?_)
  · have hf := (if_pos hc).symm.trans hf
    refine x_lv [] (lv' := []) rfl ?_
    exact hx0 _ (Option.some.inj hf).symm
  · have hf := (if_neg hc).symm.trans hf
    refine x_aload_n C dX2_emptyPlaces_8 9 rfl 0 rfl rfl ?_
    refine x_iload_n C dX2_emptyPlaces_9 10 rfl 1 rfl rfl ?_
    refine x_lconst C dX2_emptyPlaces_10 11 rfl 0 (by decide) ?_
    obtain ⟨o11, ho11, hf⟩ := x_bind hf
    obtain ⟨w11, hw11, hf⟩ := x_bind hf
    refine x_callVv C dX2_emptyPlaces_11 14 rfl ho11 cl2.1 rfl (cX2_beginc hw11) kX2_begin kvX2_begin w696 ⟨rfl, rfl⟩ ⟨Nat.le_of_ble_eq_true rfl, Nat.le_of_ble_eq_true rfl⟩ ⟨Nat.zero_le _, Nat.zero_le _⟩ rfl rfl (Nat.le_of_ble_eq_true rfl) ?_
    obtain ⟨v14, ev14, hf⟩ := xlet_some hf
    refine x_iinc C dX2_emptyPlaces_14 17 rfl 1 rfl v14 ev14 rfl [(1, .int (v14)), (0, .ref (x0))] rfl ?_
    refine x_goto C dX2_emptyPlaces_17 2 (by decide) ?_
    refine x_lv [1, 0] (lv' := [(0, .ref (x0)), (1, .int (v14))]) rfl ?_
    exact hK _ (Option.some.inj hf).symm
noncomputable def fX2_emptyPlaces (σ : St) (x0 : Nat) : Option (St) :=
(iterP (fLX2_emptyPlaces_2 x0) (0, σ)).bind fun b2 =>
some b2
set_option maxHeartbeats 4000000 in
set_option maxRecDepth 100000 in
theorem cX2_emptyPlacesc {l : Launch} {G : xG} {A : Nat → Prop} {σ : St} {x0 : Nat} {c : St} (hf : fX2_emptyPlaces σ x0 = some c) : Con l yX2_emptyPlaces (xws yX2_emptyPlaces cX2_emptyPlaces 2 none) rmX2_emptyPlaces [.ref (x0)] G A σ none c := by
  refine x_start rfl (Nat.le_of_ble_eq_true rfl) (fun X _ _ _ C hE0 => ?_)
  have hE : ∀ r, c = r → xE1 X none r := fun r e => e ▸ hE0
  show V X (0, 0) σ 0 [(0, .ref (x0))] []
  unfold fX2_emptyPlaces at hf
  refine x_iconst C dX2_emptyPlaces_0 1 rfl 0 (by decide) ?_
  refine x_istore_n C dX2_emptyPlaces_1 2 rfl rfl rfl [(1, .int (0)), (0, .ref (x0))] rfl ?_
  obtain ⟨b2, hb2, hf⟩ := x_bind hf
  refine x_lv [1, 0] (lv' := [(0, .ref (x0)), (1, .int (0))]) rfl ?_
  refine lpX2_emptyPlaces_2 C hb2 (fun s2 e2 => ?_)
  subst e2
  exact x_vret C (hE _ (Option.some.inj hf).symm) dX2_emptyPlaces_20
