/-! methods: X7_sideFault X7_readOrder X7_sideWord X7_readRight X7_readRule X7_readWeigh X8_allWeighLess X8_goToNextRow X8_findLeast X8_leastOf X8_startAnew -/
theorem dX7_sideFault_0 : decode cX7_sideFault 0 = .ok (.aload_n 0, 1) := by decide +kernel
theorem dX7_sideFault_1 : decode cX7_sideFault 1 = .ok (.getfield 22, 3) := by decide +kernel
theorem dX7_sideFault_4 : decode cX7_sideFault 4 = .ok (.iconst 1, 1) := by decide +kernel
theorem dX7_sideFault_5 : decode cX7_sideFault 5 = .ok (.if_icmp .eq 5, 3) := by decide +kernel
theorem dX7_sideFault_8 : decode cX7_sideFault 8 = .ok (.iconst 1, 1) := by decide +kernel
theorem dX7_sideFault_9 : decode cX7_sideFault 9 = .ok (.ireturn, 1) := by decide +kernel
theorem dX7_sideFault_10 : decode cX7_sideFault 10 = .ok (.aload_n 0, 1) := by decide +kernel
theorem dX7_sideFault_11 : decode cX7_sideFault 11 = .ok (.getfield 28, 3) := by decide +kernel
theorem dX7_sideFault_14 : decode cX7_sideFault 14 = .ok (.aload_n 0, 1) := by decide +kernel
theorem dX7_sideFault_15 : decode cX7_sideFault 15 = .ok (.getfield 25, 3) := by decide +kernel
theorem dX7_sideFault_18 : decode cX7_sideFault 18 = .ok (.isub, 1) := by decide +kernel
theorem dX7_sideFault_19 : decode cX7_sideFault 19 = .ok (.iload_n 1, 1) := by decide +kernel
theorem dX7_sideFault_20 : decode cX7_sideFault 20 = .ok (.if_icmp .le 5, 3) := by decide +kernel
theorem dX7_sideFault_23 : decode cX7_sideFault 23 = .ok (.iconst 2, 1) := by decide +kernel
theorem dX7_sideFault_24 : decode cX7_sideFault 24 = .ok (.ireturn, 1) := by decide +kernel
theorem dX7_sideFault_25 : decode cX7_sideFault 25 = .ok (.aload_n 0, 1) := by decide +kernel
theorem dX7_sideFault_26 : decode cX7_sideFault 26 = .ok (.getfield 25, 3) := by decide +kernel
theorem dX7_sideFault_29 : decode cX7_sideFault 29 = .ok (.istore_n 2, 1) := by decide +kernel
theorem dX7_sideFault_30 : decode cX7_sideFault 30 = .ok (.iload_n 2, 1) := by decide +kernel
theorem dX7_sideFault_31 : decode cX7_sideFault 31 = .ok (.aload_n 0, 1) := by decide +kernel
theorem dX7_sideFault_32 : decode cX7_sideFault 32 = .ok (.getfield 28, 3) := by decide +kernel
theorem dX7_sideFault_35 : decode cX7_sideFault 35 = .ok (.if_icmp .ge 30, 3) := by decide +kernel
theorem dX7_sideFault_38 : decode cX7_sideFault 38 = .ok (.aload_n 0, 1) := by decide +kernel
theorem dX7_sideFault_39 : decode cX7_sideFault 39 = .ok (.getfield 31, 3) := by decide +kernel
theorem dX7_sideFault_42 : decode cX7_sideFault 42 = .ok (.iload_n 2, 1) := by decide +kernel
theorem dX7_sideFault_43 : decode cX7_sideFault 43 = .ok (.iaload, 1) := by decide +kernel
theorem dX7_sideFault_44 : decode cX7_sideFault 44 = .ok (.bipush 97, 2) := by decide +kernel
theorem dX7_sideFault_46 : decode cX7_sideFault 46 = .ok (.isub, 1) := by decide +kernel
theorem dX7_sideFault_47 : decode cX7_sideFault 47 = .ok (.aload_n 0, 1) := by decide +kernel
theorem dX7_sideFault_48 : decode cX7_sideFault 48 = .ok (.getfield 12, 3) := by decide +kernel
theorem dX7_sideFault_51 : decode cX7_sideFault 51 = .ok (.getfield 102, 3) := by decide +kernel
theorem dX7_sideFault_54 : decode cX7_sideFault 54 = .ok (.if_icmp .lt 5, 3) := by decide +kernel
theorem dX7_sideFault_57 : decode cX7_sideFault 57 = .ok (.iconst 2, 1) := by decide +kernel
theorem dX7_sideFault_58 : decode cX7_sideFault 58 = .ok (.ireturn, 1) := by decide +kernel
theorem dX7_sideFault_59 : decode cX7_sideFault 59 = .ok (.iinc 2 1, 3) := by decide +kernel
theorem dX7_sideFault_62 : decode cX7_sideFault 62 = .ok (.goto (-32), 3) := by decide +kernel
theorem dX7_sideFault_65 : decode cX7_sideFault 65 = .ok (.iconst 0, 1) := by decide +kernel
theorem dX7_sideFault_66 : decode cX7_sideFault 66 = .ok (.ireturn, 1) := by decide +kernel
abbrev rmX7_sideFault : Room := { frames := 0, cells := 0, slots := 0, locals := 0 }
noncomputable def fLX7_sideFault_30 (σ : St) (x0 : Nat) (a : Int32) : Option ((Int32) ⊕ ((Unit) ⊕ (Unit))) :=
(gI σ x0 7 5).bind fun v32 =>
if v32 ≤ a then
(some (Sum.inr (Sum.inr ())))
else
((gR σ x0 7 1).bind fun v39 =>
(aI σ v39 0 a).bind fun v43 =>
(gR σ x0 7 0).bind fun v48 =>
(gI σ v48 8 0).bind fun v51 =>
if (v43 - 97) < v51 then
(xlet (a + 1) fun v59 =>
some (Sum.inl v59))
else
(some (Sum.inr (Sum.inl ()))))
set_option maxHeartbeats 4000000 in
set_option maxRecDepth 100000 in
theorem lpX7_sideFault_30 {X : xX} {σ : St} {x0 : Nat}  {a0 : Int32} {b : (Unit) ⊕ (Unit)} (C : Ok X cX7_sideFault 3 RX7 rmX7_sideFault (some .int)) (hb : iterP (fLX7_sideFault_30 σ x0) a0 = some b) (hy0 : ∀ s, b = (Sum.inl s) → V X (0, 0) σ 57 [] []) (hy1 : ∀ s, b = (Sum.inr s) → V X (0, 0) σ 65 [] []) : V X (0, 0) σ 30 [(0, .ref (x0)), (2, .int (a0))] [] := by
  obtain ⟨n, hn⟩ := iterP_some hb
  refine x_loop (P := fun a => V X (0, 0) σ 30 [(0, .ref (x0)), (2, .int (a))] []) ?_ n a0 hn
  intro a c hf hK hxx
  have hx0 : ∀ s, c = Sum.inr (Sum.inl s) → V X (0, 0) σ 57 [] [] := fun s e => hy0 s (hxx _ e).symm
  have hx1 : ∀ s, c = Sum.inr (Sum.inr s) → V X (0, 0) σ 65 [] [] := fun s e => hy1 s (hxx _ e).symm
  unfold fLX7_sideFault_30 at hf
  refine x_iload_n C dX7_sideFault_30 31 rfl 1 rfl rfl ?_
  refine x_aload_n C dX7_sideFault_31 32 rfl 0 rfl rfl ?_
  obtain ⟨v32, hv32, hf⟩ := x_bind hf
  refine x_getI C dX7_sideFault_32 35 rfl hv32 cl7 rfl w292 ?_
  refine x_icmp_ge C dX7_sideFault_35 65 (by decide) 38 rfl (fun hc => ?_) (fun hc => ?_)
  · have hf := (if_pos hc).symm.trans hf
    refine x_lv [] (lv' := []) rfl ?_
    exact hx1 _ (Option.some.inj hf).symm
  · have hf := (if_neg hc).symm.trans hf
    refine x_aload_n C dX7_sideFault_38 39 rfl 0 rfl rfl ?_
    obtain ⟨v39, hv39, hf⟩ := x_bind hf
    refine x_getR C dX7_sideFault_39 42 rfl hv39 cl7 rfl w287 ?_
    refine x_iload_n C dX7_sideFault_42 43 rfl 1 rfl rfl ?_
    obtain ⟨v43, hv43, hf⟩ := x_bind hf
    refine x_iaload C dX7_sideFault_43 44 rfl hv43 ?_
    refine x_bipush C dX7_sideFault_44 46 rfl 97 (by decide) ?_
    refine x_isub C dX7_sideFault_46 47 rfl ?_
    refine x_aload_n C dX7_sideFault_47 48 rfl 0 rfl rfl ?_
    obtain ⟨v48, hv48, hf⟩ := x_bind hf
    refine x_getR C dX7_sideFault_48 51 rfl hv48 cl7 rfl w285 ?_
    obtain ⟨v51, hv51, hf⟩ := x_bind hf
    refine x_getI C dX7_sideFault_51 54 rfl hv51 cl8 rfl w181 ?_
    refine x_icmp_lt C dX7_sideFault_54 59 (by decide) 57 rfl (fun hc => ?_) (fun hc => ?_)
    · have hf := (if_pos hc).symm.trans hf
      obtain ⟨v59, ev59, hf⟩ := xlet_some hf
      refine x_iinc C dX7_sideFault_59 62 rfl 1 rfl v59 ev59 rfl [(2, .int (v59)), (0, .ref (x0))] rfl ?_
      refine x_goto C dX7_sideFault_62 30 (by decide) ?_
      refine x_lv [1, 0] (lv' := [(0, .ref (x0)), (2, .int (v59))]) rfl ?_
      exact hK _ (Option.some.inj hf).symm
    · have hf := (if_neg hc).symm.trans hf
      refine x_lv [] (lv' := []) rfl ?_
      exact hx0 _ (Option.some.inj hf).symm
noncomputable def fX7_sideFault (σ : St) (x0 : Nat) (x1 : Int32) : Option (Int32) :=
(gI σ x0 7 3).bind fun v1 =>
if v1 = ((1 : Int32)) then
((gI σ x0 7 5).bind fun v11 =>
(gI σ x0 7 4).bind fun v15 =>
if (v11 - v15) ≤ x1 then
((gI σ x0 7 4).bind fun v26 =>
(iterP (fLX7_sideFault_30 σ x0) v26).bind fun b30 =>
(match b30 with
| .inl s30 =>
some 2
| .inr s30 =>
some 0))
else
(some 2))
else
(some 1)
set_option maxHeartbeats 4000000 in
set_option maxRecDepth 100000 in
theorem cX7_sideFaultc {l : Launch} {G : xG} {A : Nat → Prop} {σ : St} {x0 : Nat} {x1 : Int32} {c : Int32} (hf : fX7_sideFault σ x0 x1 = some c) : Con l yX7_sideFault (xws yX7_sideFault cX7_sideFault 3 (some .int)) rmX7_sideFault [.ref (x0), .int (x1)] G A σ (some (.int c)) σ := by
  refine x_start rfl (Nat.le_of_ble_eq_true rfl) (fun X _ _ _ C hE0 => ?_)
  have hE : ∀ r, c = r → xE1 X (some (.int r)) σ := fun r e => e ▸ hE0
  show V X (0, 0) σ 0 [(0, .ref (x0)), (1, .int (x1))] []
  unfold fX7_sideFault at hf
  refine x_aload_n C dX7_sideFault_0 1 rfl 0 rfl rfl ?_
  obtain ⟨v1, hv1, hf⟩ := x_bind hf
  refine x_getI C dX7_sideFault_1 4 rfl hv1 cl7 rfl w289 ?_
  refine x_iconst C dX7_sideFault_4 5 rfl 1 (by decide) ?_
  refine x_icmp_eq C dX7_sideFault_5 10 (by decide) 8 rfl (fun hc => ?_) (fun hc => ?_)
  · have hf := (if_pos hc).symm.trans hf
    refine x_aload_n C dX7_sideFault_10 11 rfl 0 rfl rfl ?_
    obtain ⟨v11, hv11, hf⟩ := x_bind hf
    refine x_getI C dX7_sideFault_11 14 rfl hv11 cl7 rfl w292 ?_
    refine x_aload_n C dX7_sideFault_14 15 rfl 0 rfl rfl ?_
    obtain ⟨v15, hv15, hf⟩ := x_bind hf
    refine x_getI C dX7_sideFault_15 18 rfl hv15 cl7 rfl w290 ?_
    refine x_isub C dX7_sideFault_18 19 rfl ?_
    refine x_iload_n C dX7_sideFault_19 20 rfl 1 rfl rfl ?_
    refine x_icmp_le C dX7_sideFault_20 25 (by decide) 23 rfl (fun hc => ?_) (fun hc => ?_)
    · have hf := (if_pos hc).symm.trans hf
      refine x_aload_n C dX7_sideFault_25 26 rfl 0 rfl rfl ?_
      obtain ⟨v26, hv26, hf⟩ := x_bind hf
      refine x_getI C dX7_sideFault_26 29 rfl hv26 cl7 rfl w290 ?_
      refine x_istore_n C dX7_sideFault_29 30 rfl rfl rfl [(2, .int (v26)), (0, .ref (x0)), (1, .int (x1))] rfl ?_
      obtain ⟨b30, hb30, hf⟩ := x_bind hf
      refine x_lv [1, 0] (lv' := [(0, .ref (x0)), (2, .int (v26))]) rfl ?_
      refine lpX7_sideFault_30 C hb30 (fun s30 e30 => ?_) (fun s30 e30 => ?_)
      · subst e30
        try dsimp only at hf
        refine x_iconst C dX7_sideFault_57 58 rfl 2 (by decide) ?_
        exact x_iret C (hE _ (Option.some.inj hf).symm) dX7_sideFault_58
      · subst e30
        try dsimp only at hf
        refine x_iconst C dX7_sideFault_65 66 rfl 0 (by decide) ?_
        exact x_iret C (hE _ (Option.some.inj hf).symm) dX7_sideFault_66
    · have hf := (if_neg hc).symm.trans hf
      refine x_iconst C dX7_sideFault_23 24 rfl 2 (by decide) ?_
      exact x_iret C (hE _ (Option.some.inj hf).symm) dX7_sideFault_24
  · have hf := (if_neg hc).symm.trans hf
    refine x_iconst C dX7_sideFault_8 9 rfl 1 (by decide) ?_
    exact x_iret C (hE _ (Option.some.inj hf).symm) dX7_sideFault_9
theorem dX7_readOrder_0 : decode cX7_readOrder 0 = .ok (.aload_n 0, 1) := by decide +kernel
theorem dX7_readOrder_1 : decode cX7_readOrder 1 = .ok (.invokevirtual 43, 3) := by decide +kernel
theorem dX7_readOrder_4 : decode cX7_readOrder 4 = .ok (.aload_n 0, 1) := by decide +kernel
theorem dX7_readOrder_5 : decode cX7_readOrder 5 = .ok (.aload_n 0, 1) := by decide +kernel
theorem dX7_readOrder_6 : decode cX7_readOrder 6 = .ok (.getfield 12, 3) := by decide +kernel
theorem dX7_readOrder_9 : decode cX7_readOrder 9 = .ok (.getfield 102, 3) := by decide +kernel
theorem dX7_readOrder_12 : decode cX7_readOrder 12 = .ok (.invokevirtual 84, 3) := by decide +kernel
theorem dX7_readOrder_15 : decode cX7_readOrder 15 = .ok (.istore_n 1, 1) := by decide +kernel
theorem dX7_readOrder_16 : decode cX7_readOrder 16 = .ok (.iload_n 1, 1) := by decide +kernel
theorem dX7_readOrder_17 : decode cX7_readOrder 17 = .ok (.ifCond .eq 5, 3) := by decide +kernel
theorem dX7_readOrder_20 : decode cX7_readOrder 20 = .ok (.iload_n 1, 1) := by decide +kernel
theorem dX7_readOrder_21 : decode cX7_readOrder 21 = .ok (.ireturn, 1) := by decide +kernel
theorem dX7_readOrder_22 : decode cX7_readOrder 22 = .ok (.aload_n 0, 1) := by decide +kernel
theorem dX7_readOrder_23 : decode cX7_readOrder 23 = .ok (.invokevirtual 104, 3) := by decide +kernel
theorem dX7_readOrder_26 : decode cX7_readOrder 26 = .ok (.ifCond .ne 5, 3) := by decide +kernel
theorem dX7_readOrder_29 : decode cX7_readOrder 29 = .ok (.iconst 2, 1) := by decide +kernel
theorem dX7_readOrder_30 : decode cX7_readOrder 30 = .ok (.ireturn, 1) := by decide +kernel
theorem dX7_readOrder_31 : decode cX7_readOrder 31 = .ok (.aload_n 0, 1) := by decide +kernel
theorem dX7_readOrder_32 : decode cX7_readOrder 32 = .ok (.getfield 25, 3) := by decide +kernel
theorem dX7_readOrder_35 : decode cX7_readOrder 35 = .ok (.istore_n 2, 1) := by decide +kernel
theorem dX7_readOrder_36 : decode cX7_readOrder 36 = .ok (.iload_n 2, 1) := by decide +kernel
theorem dX7_readOrder_37 : decode cX7_readOrder 37 = .ok (.aload_n 0, 1) := by decide +kernel
theorem dX7_readOrder_38 : decode cX7_readOrder 38 = .ok (.getfield 28, 3) := by decide +kernel
theorem dX7_readOrder_41 : decode cX7_readOrder 41 = .ok (.if_icmp .ge 32, 3) := by decide +kernel
theorem dX7_readOrder_44 : decode cX7_readOrder 44 = .ok (.aload_n 0, 1) := by decide +kernel
theorem dX7_readOrder_45 : decode cX7_readOrder 45 = .ok (.getfield 12, 3) := by decide +kernel
theorem dX7_readOrder_48 : decode cX7_readOrder 48 = .ok (.getfield 108, 3) := by decide +kernel
theorem dX7_readOrder_51 : decode cX7_readOrder 51 = .ok (.aload_n 0, 1) := by decide +kernel
theorem dX7_readOrder_52 : decode cX7_readOrder 52 = .ok (.getfield 31, 3) := by decide +kernel
theorem dX7_readOrder_55 : decode cX7_readOrder 55 = .ok (.iload_n 2, 1) := by decide +kernel
theorem dX7_readOrder_56 : decode cX7_readOrder 56 = .ok (.iaload, 1) := by decide +kernel
theorem dX7_readOrder_57 : decode cX7_readOrder 57 = .ok (.bipush 97, 2) := by decide +kernel
theorem dX7_readOrder_59 : decode cX7_readOrder 59 = .ok (.isub, 1) := by decide +kernel
theorem dX7_readOrder_60 : decode cX7_readOrder 60 = .ok (.iload_n 2, 1) := by decide +kernel
theorem dX7_readOrder_61 : decode cX7_readOrder 61 = .ok (.aload_n 0, 1) := by decide +kernel
theorem dX7_readOrder_62 : decode cX7_readOrder 62 = .ok (.getfield 25, 3) := by decide +kernel
theorem dX7_readOrder_65 : decode cX7_readOrder 65 = .ok (.isub, 1) := by decide +kernel
theorem dX7_readOrder_66 : decode cX7_readOrder 66 = .ok (.iastore, 1) := by decide +kernel
theorem dX7_readOrder_67 : decode cX7_readOrder 67 = .ok (.iinc 2 1, 3) := by decide +kernel
theorem dX7_readOrder_70 : decode cX7_readOrder 70 = .ok (.goto (-34), 3) := by decide +kernel
theorem dX7_readOrder_73 : decode cX7_readOrder 73 = .ok (.aload_n 0, 1) := by decide +kernel
theorem dX7_readOrder_74 : decode cX7_readOrder 74 = .ok (.invokevirtual 43, 3) := by decide +kernel
theorem dX7_readOrder_77 : decode cX7_readOrder 77 = .ok (.iconst 0, 1) := by decide +kernel
theorem dX7_readOrder_78 : decode cX7_readOrder 78 = .ok (.ireturn, 1) := by decide +kernel
abbrev rmX7_readOrder : Room := { frames := 2, cells := 0, slots := 0, locals := 42 }
noncomputable def fLX7_readOrder_36 (x0 : Nat) (a : Int32 × St) : Option ((Int32 × St) ⊕ (St)) :=
(gI a.2 x0 7 5).bind fun v38 =>
if v38 ≤ a.1 then
(some (Sum.inr a.2))
else
((gR a.2 x0 7 0).bind fun v45 =>
(gR a.2 v45 8 5).bind fun v48 =>
(gR a.2 x0 7 1).bind fun v52 =>
(aI a.2 v52 0 a.1).bind fun v56 =>
(gI a.2 x0 7 4).bind fun v62 =>
(sI a.2 v48 (v56 - 97) (a.1 - v62)).bind fun σ66 =>
xlet (a.1 + 1) fun v67 =>
some (Sum.inl (v67, σ66)))
set_option maxHeartbeats 4000000 in
set_option maxRecDepth 100000 in
theorem lpX7_readOrder_36 {X : xX} {x0 : Nat}  {a0 : Int32 × St} {b : St} (C : Ok X cX7_readOrder 3 RX7 rmX7_readOrder (some .int)) (hb : iterP (fLX7_readOrder_36 x0) a0 = some b) (hy0 : ∀ s, b = s → V X (0, 0) s 73 [(0, .ref (x0))] []) : V X (0, 0) a0.2 36 [(0, .ref (x0)), (2, .int (a0.1))] [] := by
  obtain ⟨n, hn⟩ := iterP_some hb
  refine x_loop (P := fun a => V X (0, 0) a.2 36 [(0, .ref (x0)), (2, .int (a.1))] []) ?_ n a0 hn
  intro a c hf hK hxx
  have hx0 : ∀ s, c = Sum.inr s → V X (0, 0) s 73 [(0, .ref (x0))] [] := fun s e => hy0 s (hxx _ e).symm
  unfold fLX7_readOrder_36 at hf
  refine x_iload_n C dX7_readOrder_36 37 rfl 1 rfl rfl ?_
  refine x_aload_n C dX7_readOrder_37 38 rfl 0 rfl rfl ?_
  obtain ⟨v38, hv38, hf⟩ := x_bind hf
  refine x_getI C dX7_readOrder_38 41 rfl hv38 cl7 rfl w292 ?_
  refine x_icmp_ge C dX7_readOrder_41 73 (by decide) 44 rfl (fun hc => ?_) (fun hc => ?_)
  · have hf := (if_pos hc).symm.trans hf
    refine x_lv [0] (lv' := [(0, .ref (x0))]) rfl ?_
    exact hx0 _ (Option.some.inj hf).symm
  · have hf := (if_neg hc).symm.trans hf
    refine x_aload_n C dX7_readOrder_44 45 rfl 0 rfl rfl ?_
    obtain ⟨v45, hv45, hf⟩ := x_bind hf
    refine x_getR C dX7_readOrder_45 48 rfl hv45 cl7 rfl w285 ?_
    obtain ⟨v48, hv48, hf⟩ := x_bind hf
    refine x_getR C dX7_readOrder_48 51 rfl hv48 cl8 rfl w206 ?_
    refine x_aload_n C dX7_readOrder_51 52 rfl 0 rfl rfl ?_
    obtain ⟨v52, hv52, hf⟩ := x_bind hf
    refine x_getR C dX7_readOrder_52 55 rfl hv52 cl7 rfl w287 ?_
    refine x_iload_n C dX7_readOrder_55 56 rfl 1 rfl rfl ?_
    obtain ⟨v56, hv56, hf⟩ := x_bind hf
    refine x_iaload C dX7_readOrder_56 57 rfl hv56 ?_
    refine x_bipush C dX7_readOrder_57 59 rfl 97 (by decide) ?_
    refine x_isub C dX7_readOrder_59 60 rfl ?_
    refine x_iload_n C dX7_readOrder_60 61 rfl 1 rfl rfl ?_
    refine x_aload_n C dX7_readOrder_61 62 rfl 0 rfl rfl ?_
    obtain ⟨v62, hv62, hf⟩ := x_bind hf
    refine x_getI C dX7_readOrder_62 65 rfl hv62 cl7 rfl w290 ?_
    refine x_isub C dX7_readOrder_65 66 rfl ?_
    obtain ⟨σ66, hσ66, hf⟩ := x_bind hf
    refine x_iastore C dX7_readOrder_66 67 rfl hσ66 ?_
    obtain ⟨v67, ev67, hf⟩ := xlet_some hf
    refine x_iinc C dX7_readOrder_67 70 rfl 1 rfl v67 ev67 rfl [(2, .int (v67)), (0, .ref (x0))] rfl ?_
    refine x_goto C dX7_readOrder_70 36 (by decide) ?_
    refine x_lv [1, 0] (lv' := [(0, .ref (x0)), (2, .int (v67))]) rfl ?_
    exact hK _ (Option.some.inj hf).symm
noncomputable def fX7_readOrder (σ : St) (x0 : Nat) : Option ((Int32 × St)) :=
(isO σ x0 7).bind fun _ =>
(fX7_next σ x0).bind fun w1 =>
(gR w1 x0 7 0).bind fun v6 =>
(gI w1 v6 8 0).bind fun v9 =>
(isO w1 x0 7).bind fun _ =>
(fX7_sideFault w1 x0 v9).bind fun w12 =>
if w12 = 0 then
((isO w1 x0 7).bind fun _ =>
(fX7_hasEachOnce w1 x0).bind fun w23 =>
if w23 = 0 then
(some (2, w1))
else
((gI w1 x0 7 4).bind fun v32 =>
(iterP (fLX7_readOrder_36 x0) (v32, w1)).bind fun b36 =>
(isO b36 x0 7).bind fun _ =>
(fX7_next b36 x0).bind fun w74 =>
some (0, w74)))
else
(some (w12, w1))
set_option maxHeartbeats 4000000 in
set_option maxRecDepth 100000 in
theorem cX7_readOrderc {l : Launch} {G : xG} {A : Nat → Prop} {σ : St} {x0 : Nat} {c : (Int32 × St)} (hf : fX7_readOrder σ x0 = some c) : Con l yX7_readOrder (xws yX7_readOrder cX7_readOrder 3 (some .int)) rmX7_readOrder [.ref (x0)] G A σ (some (.int c.1)) c.2 := by
  refine x_start rfl (Nat.le_of_ble_eq_true rfl) (fun X _ _ _ C hE0 => ?_)
  have hE : ∀ r, c = r → xE1 X (some (.int r.1)) r.2 := fun r e => e ▸ hE0
  show V X (0, 0) σ 0 [(0, .ref (x0))] []
  unfold fX7_readOrder at hf
  refine x_aload_n C dX7_readOrder_0 1 rfl 0 rfl rfl ?_
  obtain ⟨o1, ho1, hf⟩ := x_bind hf
  obtain ⟨w1, hw1, hf⟩ := x_bind hf
  refine x_callVv C dX7_readOrder_1 4 rfl ho1 cl7.1 rfl (cX7_nextc hw1) kX7_next kvX7_next w841 ⟨rfl, rfl⟩ ⟨Nat.le_of_ble_eq_true rfl, Nat.le_of_ble_eq_true rfl⟩ ⟨Nat.zero_le _, Nat.zero_le _⟩ rfl rfl (Nat.le_of_ble_eq_true rfl) ?_
  refine x_aload_n C dX7_readOrder_4 5 rfl 0 rfl rfl ?_
  refine x_aload_n C dX7_readOrder_5 6 rfl 0 rfl rfl ?_
  obtain ⟨v6, hv6, hf⟩ := x_bind hf
  refine x_getR C dX7_readOrder_6 9 rfl hv6 cl7 rfl w285 ?_
  obtain ⟨v9, hv9, hf⟩ := x_bind hf
  refine x_getI C dX7_readOrder_9 12 rfl hv9 cl8 rfl w181 ?_
  obtain ⟨o12, ho12, hf⟩ := x_bind hf
  obtain ⟨w12, hw12, hf⟩ := x_bind hf
  refine x_callVi C dX7_readOrder_12 15 rfl ho12 cl7.1 rfl (cX7_sideFaultc hw12) kX7_sideFault kvX7_sideFault w924 ⟨rfl, rfl⟩ ⟨Nat.le_of_ble_eq_true rfl, Nat.le_of_ble_eq_true rfl⟩ ⟨Nat.zero_le _, Nat.zero_le _⟩ rfl rfl (Nat.le_of_ble_eq_true rfl) ?_
  refine x_istore_n C dX7_readOrder_15 16 rfl rfl rfl [(1, .int (w12)), (0, .ref (x0))] rfl ?_
  refine x_iload_n C dX7_readOrder_16 17 rfl 0 rfl rfl ?_
  refine x_if_eq C dX7_readOrder_17 22 (by decide) 20 rfl (fun hc => ?_) (fun hc => ?_)
  · have hf := (if_pos hc).symm.trans hf
    refine x_aload_n C dX7_readOrder_22 23 rfl 1 rfl rfl ?_
    obtain ⟨o23, ho23, hf⟩ := x_bind hf
    obtain ⟨w23, hw23, hf⟩ := x_bind hf
    refine x_callVi C dX7_readOrder_23 26 rfl ho23 cl7.1 rfl (cX7_hasEachOncec hw23) kX7_hasEachOnce kvX7_hasEachOnce w954 ⟨rfl, rfl⟩ ⟨Nat.le_of_ble_eq_true rfl, Nat.le_of_ble_eq_true rfl⟩ ⟨Nat.zero_le _, Nat.zero_le _⟩ rfl rfl (Nat.le_of_ble_eq_true rfl) ?_
    refine x_if_ne C dX7_readOrder_26 31 (by decide) 29 rfl (fun hc => ?_) (fun hc => ?_)
    · have hf := (if_neg hc).symm.trans hf
      refine x_aload_n C dX7_readOrder_31 32 rfl 1 rfl rfl ?_
      obtain ⟨v32, hv32, hf⟩ := x_bind hf
      refine x_getI C dX7_readOrder_32 35 rfl hv32 cl7 rfl w290 ?_
      refine x_istore_n C dX7_readOrder_35 36 rfl rfl rfl [(2, .int (v32)), (1, .int (w12)), (0, .ref (x0))] rfl ?_
      obtain ⟨b36, hb36, hf⟩ := x_bind hf
      refine x_lv [2, 0] (lv' := [(0, .ref (x0)), (2, .int (v32))]) rfl ?_
      refine lpX7_readOrder_36 C hb36 (fun s36 e36 => ?_)
      subst e36
      refine x_aload_n C dX7_readOrder_73 74 rfl 0 rfl rfl ?_
      obtain ⟨o74, ho74, hf⟩ := x_bind hf
      obtain ⟨w74, hw74, hf⟩ := x_bind hf
      refine x_callVv C dX7_readOrder_74 77 rfl ho74 cl7.1 rfl (cX7_nextc hw74) kX7_next kvX7_next w841 ⟨rfl, rfl⟩ ⟨Nat.le_of_ble_eq_true rfl, Nat.le_of_ble_eq_true rfl⟩ ⟨Nat.zero_le _, Nat.zero_le _⟩ rfl rfl (Nat.le_of_ble_eq_true rfl) ?_
      refine x_iconst C dX7_readOrder_77 78 rfl 0 (by decide) ?_
      exact x_iret C (hE _ (Option.some.inj hf).symm) dX7_readOrder_78
    · have hf := (if_pos hc).symm.trans hf
      refine x_iconst C dX7_readOrder_29 30 rfl 2 (by decide) ?_
      exact x_iret C (hE _ (Option.some.inj hf).symm) dX7_readOrder_30
  · have hf := (if_neg hc).symm.trans hf
    refine x_iload_n C dX7_readOrder_20 21 rfl 0 rfl rfl ?_
    exact x_iret C (hE _ (Option.some.inj hf).symm) dX7_readOrder_21
theorem dX7_sideWord_0 : decode cX7_sideWord 0 = .ok (.lconst 0, 1) := by decide +kernel
theorem dX7_sideWord_1 : decode cX7_sideWord 1 = .ok (.lstore_n 1, 1) := by decide +kernel
theorem dX7_sideWord_2 : decode cX7_sideWord 2 = .ok (.aload_n 0, 1) := by decide +kernel
theorem dX7_sideWord_3 : decode cX7_sideWord 3 = .ok (.getfield 25, 3) := by decide +kernel
theorem dX7_sideWord_6 : decode cX7_sideWord 6 = .ok (.istore_n 3, 1) := by decide +kernel
theorem dX7_sideWord_7 : decode cX7_sideWord 7 = .ok (.iload_n 3, 1) := by decide +kernel
theorem dX7_sideWord_8 : decode cX7_sideWord 8 = .ok (.aload_n 0, 1) := by decide +kernel
theorem dX7_sideWord_9 : decode cX7_sideWord 9 = .ok (.getfield 28, 3) := by decide +kernel
theorem dX7_sideWord_12 : decode cX7_sideWord 12 = .ok (.if_icmp .ge 23, 3) := by decide +kernel
theorem dX7_sideWord_15 : decode cX7_sideWord 15 = .ok (.lload_n 1, 1) := by decide +kernel
theorem dX7_sideWord_16 : decode cX7_sideWord 16 = .ok (.aload_n 0, 1) := by decide +kernel
theorem dX7_sideWord_17 : decode cX7_sideWord 17 = .ok (.getfield 31, 3) := by decide +kernel
theorem dX7_sideWord_20 : decode cX7_sideWord 20 = .ok (.iload_n 3, 1) := by decide +kernel
theorem dX7_sideWord_21 : decode cX7_sideWord 21 = .ok (.iaload, 1) := by decide +kernel
theorem dX7_sideWord_22 : decode cX7_sideWord 22 = .ok (.bipush 97, 2) := by decide +kernel
theorem dX7_sideWord_24 : decode cX7_sideWord 24 = .ok (.isub, 1) := by decide +kernel
theorem dX7_sideWord_25 : decode cX7_sideWord 25 = .ok (.invokestatic 116, 3) := by decide +kernel
theorem dX7_sideWord_28 : decode cX7_sideWord 28 = .ok (.lstore_n 1, 1) := by decide +kernel
theorem dX7_sideWord_29 : decode cX7_sideWord 29 = .ok (.iinc 3 1, 3) := by decide +kernel
theorem dX7_sideWord_32 : decode cX7_sideWord 32 = .ok (.goto (-25), 3) := by decide +kernel
theorem dX7_sideWord_35 : decode cX7_sideWord 35 = .ok (.lload_n 1, 1) := by decide +kernel
theorem dX7_sideWord_36 : decode cX7_sideWord 36 = .ok (.lreturn, 1) := by decide +kernel
abbrev rmX7_sideWord : Room := { frames := 1, cells := 0, slots := 0, locals := 23 }
noncomputable def fLX7_sideWord_7 (σ : St) (x0 : Nat) (a : Int64 × Int32) : Option ((Int64 × Int32) ⊕ (Int64)) :=
(gI σ x0 7 5).bind fun v9 =>
if v9 ≤ a.2 then
(some (Sum.inr a.1))
else
((gR σ x0 7 1).bind fun v17 =>
(aI σ v17 0 a.2).bind fun v21 =>
(fX10_longer a.1 (v21 - 97)).bind fun w25 =>
xlet (a.2 + 1) fun v29 =>
some (Sum.inl (w25, v29)))
set_option maxHeartbeats 4000000 in
set_option maxRecDepth 100000 in
theorem lpX7_sideWord_7 {X : xX} {σ : St} {x0 : Nat}  {a0 : Int64 × Int32} {b : Int64} (C : Ok X cX7_sideWord 4 RX7 rmX7_sideWord (some .long)) (hb : iterP (fLX7_sideWord_7 σ x0) a0 = some b) (hy0 : ∀ s, b = s → V X (0, 0) σ 35 [(1, .long (s))] []) : V X (0, 0) σ 7 [(0, .ref (x0)), (1, .long (a0.1)), (3, .int (a0.2))] [] := by
  obtain ⟨n, hn⟩ := iterP_some hb
  refine x_loop (P := fun a => V X (0, 0) σ 7 [(0, .ref (x0)), (1, .long (a.1)), (3, .int (a.2))] []) ?_ n a0 hn
  intro a c hf hK hxx
  have hx0 : ∀ s, c = Sum.inr s → V X (0, 0) σ 35 [(1, .long (s))] [] := fun s e => hy0 s (hxx _ e).symm
  unfold fLX7_sideWord_7 at hf
  refine x_iload_n C dX7_sideWord_7 8 rfl 2 rfl rfl ?_
  refine x_aload_n C dX7_sideWord_8 9 rfl 0 rfl rfl ?_
  obtain ⟨v9, hv9, hf⟩ := x_bind hf
  refine x_getI C dX7_sideWord_9 12 rfl hv9 cl7 rfl w292 ?_
  refine x_icmp_ge C dX7_sideWord_12 35 (by decide) 15 rfl (fun hc => ?_) (fun hc => ?_)
  · have hf := (if_pos hc).symm.trans hf
    refine x_lv [1] (lv' := [(1, .long (a.1))]) rfl ?_
    exact hx0 _ (Option.some.inj hf).symm
  · have hf := (if_neg hc).symm.trans hf
    refine x_lload_n C dX7_sideWord_15 16 rfl 1 rfl rfl ?_
    refine x_aload_n C dX7_sideWord_16 17 rfl 0 rfl rfl ?_
    obtain ⟨v17, hv17, hf⟩ := x_bind hf
    refine x_getR C dX7_sideWord_17 20 rfl hv17 cl7 rfl w287 ?_
    refine x_iload_n C dX7_sideWord_20 21 rfl 2 rfl rfl ?_
    obtain ⟨v21, hv21, hf⟩ := x_bind hf
    refine x_iaload C dX7_sideWord_21 22 rfl hv21 ?_
    refine x_bipush C dX7_sideWord_22 24 rfl 97 (by decide) ?_
    refine x_isub C dX7_sideWord_24 25 rfl ?_
    obtain ⟨w25, hw25, hf⟩ := x_bind hf
    refine x_callSl C dX7_sideWord_25 28 rfl (cX10_longerc hw25) kX10_longer ksX10_longer w932 ⟨rfl, rfl⟩ ⟨Nat.le_of_ble_eq_true rfl, Nat.le_of_ble_eq_true rfl⟩ ⟨Nat.zero_le _, Nat.zero_le _⟩ rfl rfl (Nat.le_of_ble_eq_true rfl) ?_
    refine x_lstore_n C dX7_sideWord_28 29 rfl rfl rfl [(1, .long (w25)), (0, .ref (x0)), (3, .int (a.2))] rfl ?_
    obtain ⟨v29, ev29, hf⟩ := xlet_some hf
    refine x_iinc C dX7_sideWord_29 32 rfl 2 rfl v29 ev29 rfl [(3, .int (v29)), (1, .long (w25)), (0, .ref (x0))] rfl ?_
    refine x_goto C dX7_sideWord_32 7 (by decide) ?_
    refine x_lv [2, 1, 0] (lv' := [(0, .ref (x0)), (1, .long (w25)), (3, .int (v29))]) rfl ?_
    exact hK _ (Option.some.inj hf).symm
noncomputable def fX7_sideWord (σ : St) (x0 : Nat) : Option (Int64) :=
(gI σ x0 7 4).bind fun v3 =>
(iterP (fLX7_sideWord_7 σ x0) (0, v3)).bind fun b7 =>
some b7
set_option maxHeartbeats 4000000 in
set_option maxRecDepth 100000 in
theorem cX7_sideWordc {l : Launch} {G : xG} {A : Nat → Prop} {σ : St} {x0 : Nat} {c : Int64} (hf : fX7_sideWord σ x0 = some c) : Con l yX7_sideWord (xws yX7_sideWord cX7_sideWord 4 (some .long)) rmX7_sideWord [.ref (x0)] G A σ (some (.long c)) σ := by
  refine x_start rfl (Nat.le_of_ble_eq_true rfl) (fun X _ _ _ C hE0 => ?_)
  have hE : ∀ r, c = r → xE1 X (some (.long r)) σ := fun r e => e ▸ hE0
  show V X (0, 0) σ 0 [(0, .ref (x0))] []
  unfold fX7_sideWord at hf
  refine x_lconst C dX7_sideWord_0 1 rfl 0 (by decide) ?_
  refine x_lstore_n C dX7_sideWord_1 2 rfl rfl rfl [(1, .long (0)), (0, .ref (x0))] rfl ?_
  refine x_aload_n C dX7_sideWord_2 3 rfl 1 rfl rfl ?_
  obtain ⟨v3, hv3, hf⟩ := x_bind hf
  refine x_getI C dX7_sideWord_3 6 rfl hv3 cl7 rfl w290 ?_
  refine x_istore_n C dX7_sideWord_6 7 rfl rfl rfl [(3, .int (v3)), (1, .long (0)), (0, .ref (x0))] rfl ?_
  obtain ⟨b7, hb7, hf⟩ := x_bind hf
  refine x_lv [2, 1, 0] (lv' := [(0, .ref (x0)), (1, .long (0)), (3, .int (v3))]) rfl ?_
  refine lpX7_sideWord_7 C hb7 (fun s7 e7 => ?_)
  subst e7
  refine x_lload_n C dX7_sideWord_35 36 rfl 0 rfl rfl ?_
  exact x_lret C (hE _ (Option.some.inj hf).symm) dX7_sideWord_36
theorem dX7_readRight_0 : decode cX7_readRight 0 = .ok (.aload_n 0, 1) := by decide +kernel
theorem dX7_readRight_1 : decode cX7_readRight 1 = .ok (.invokevirtual 43, 3) := by decide +kernel
theorem dX7_readRight_4 : decode cX7_readRight 4 = .ok (.lconst 0, 1) := by decide +kernel
theorem dX7_readRight_5 : decode cX7_readRight 5 = .ok (.lstore_n 3, 1) := by decide +kernel
theorem dX7_readRight_6 : decode cX7_readRight 6 = .ok (.aload_n 0, 1) := by decide +kernel
theorem dX7_readRight_7 : decode cX7_readRight 7 = .ok (.bipush 59, 2) := by decide +kernel
theorem dX7_readRight_9 : decode cX7_readRight 9 = .ok (.invokevirtual 39, 3) := by decide +kernel
theorem dX7_readRight_12 : decode cX7_readRight 12 = .ok (.ifCond .ne 35, 3) := by decide +kernel
theorem dX7_readRight_15 : decode cX7_readRight 15 = .ok (.aload_n 0, 1) := by decide +kernel
theorem dX7_readRight_16 : decode cX7_readRight 16 = .ok (.iconst 4, 1) := by decide +kernel
theorem dX7_readRight_17 : decode cX7_readRight 17 = .ok (.invokevirtual 84, 3) := by decide +kernel
theorem dX7_readRight_20 : decode cX7_readRight 20 = .ok (.istore 5, 2) := by decide +kernel
theorem dX7_readRight_22 : decode cX7_readRight 22 = .ok (.iload 5, 2) := by decide +kernel
theorem dX7_readRight_24 : decode cX7_readRight 24 = .ok (.ifCond .eq 6, 3) := by decide +kernel
theorem dX7_readRight_27 : decode cX7_readRight 27 = .ok (.iload 5, 2) := by decide +kernel
theorem dX7_readRight_29 : decode cX7_readRight 29 = .ok (.ireturn, 1) := by decide +kernel
theorem dX7_readRight_30 : decode cX7_readRight 30 = .ok (.aload_n 0, 1) := by decide +kernel
theorem dX7_readRight_31 : decode cX7_readRight 31 = .ok (.invokevirtual 87, 3) := by decide +kernel
theorem dX7_readRight_34 : decode cX7_readRight 34 = .ok (.lstore_n 3, 1) := by decide +kernel
theorem dX7_readRight_35 : decode cX7_readRight 35 = .ok (.lload_n 3, 1) := by decide +kernel
theorem dX7_readRight_36 : decode cX7_readRight 36 = .ok (.lload_n 1, 1) := by decide +kernel
theorem dX7_readRight_37 : decode cX7_readRight 37 = .ok (.lcmp, 1) := by decide +kernel
theorem dX7_readRight_38 : decode cX7_readRight 38 = .ok (.ifCond .ne 5, 3) := by decide +kernel
theorem dX7_readRight_41 : decode cX7_readRight 41 = .ok (.iconst 4, 1) := by decide +kernel
theorem dX7_readRight_42 : decode cX7_readRight 42 = .ok (.ireturn, 1) := by decide +kernel
theorem dX7_readRight_43 : decode cX7_readRight 43 = .ok (.aload_n 0, 1) := by decide +kernel
theorem dX7_readRight_44 : decode cX7_readRight 44 = .ok (.invokevirtual 43, 3) := by decide +kernel
theorem dX7_readRight_47 : decode cX7_readRight 47 = .ok (.aload_n 0, 1) := by decide +kernel
theorem dX7_readRight_48 : decode cX7_readRight 48 = .ok (.getfield 12, 3) := by decide +kernel
theorem dX7_readRight_51 : decode cX7_readRight 51 = .ok (.lload_n 1, 1) := by decide +kernel
theorem dX7_readRight_52 : decode cX7_readRight 52 = .ok (.lload_n 3, 1) := by decide +kernel
theorem dX7_readRight_53 : decode cX7_readRight 53 = .ok (.invokevirtual 95, 3) := by decide +kernel
theorem dX7_readRight_56 : decode cX7_readRight 56 = .ok (.iconst 0, 1) := by decide +kernel
theorem dX7_readRight_57 : decode cX7_readRight 57 = .ok (.ireturn, 1) := by decide +kernel
abbrev rmX7_readRight : Room := { frames := 2, cells := 0, slots := 0, locals := 46 }
noncomputable def fX7_readRight (σ : St) (x0 : Nat) (x1 : Int64) : Option ((Int32 × St)) :=
(isO σ x0 7).bind fun _ =>
(fX7_next σ x0).bind fun w1 =>
(isO w1 x0 7).bind fun _ =>
(fX7_isSign w1 x0 59).bind fun w9 =>
if w9 = 0 then
((isO w1 x0 7).bind fun _ =>
(fX7_sideFault w1 x0 4).bind fun w17 =>
if w17 = 0 then
((isO w1 x0 7).bind fun _ =>
(fX7_sideWord w1 x0).bind fun w31 =>
if (lg_cmp w31 x1) = 0 then
(some (4, w1))
else
((isO w1 x0 7).bind fun _ =>
(fX7_next w1 x0).bind fun w44 =>
(gR w44 x0 7 0).bind fun v48 =>
(isO w44 v48 8).bind fun _ =>
(fX8_add w44 v48 x1 w31).bind fun w53 =>
some (0, w53)))
else
(some (w17, w1)))
else
((gR w1 x0 7 0).bind fun v48 =>
(isO w1 v48 8).bind fun _ =>
(fX8_add w1 v48 x1 0).bind fun w53 =>
some (0, w53))
set_option maxHeartbeats 4000000 in
set_option maxRecDepth 100000 in
theorem cX7_readRightc {l : Launch} {G : xG} {A : Nat → Prop} {σ : St} {x0 : Nat} {x1 : Int64} {c : (Int32 × St)} (hf : fX7_readRight σ x0 x1 = some c) : Con l yX7_readRight (xws yX7_readRight cX7_readRight 6 (some .int)) rmX7_readRight [.ref (x0), .long (x1)] G A σ (some (.int c.1)) c.2 := by
  refine x_start rfl (Nat.le_of_ble_eq_true rfl) (fun X _ _ _ C hE0 => ?_)
  have hE : ∀ r, c = r → xE1 X (some (.int r.1)) r.2 := fun r e => e ▸ hE0
  show V X (0, 0) σ 0 [(0, .ref (x0)), (1, .long (x1))] []
  unfold fX7_readRight at hf
  refine x_aload_n C dX7_readRight_0 1 rfl 0 rfl rfl ?_
  obtain ⟨o1, ho1, hf⟩ := x_bind hf
  obtain ⟨w1, hw1, hf⟩ := x_bind hf
  refine x_callVv C dX7_readRight_1 4 rfl ho1 cl7.1 rfl (cX7_nextc hw1) kX7_next kvX7_next w841 ⟨rfl, rfl⟩ ⟨Nat.le_of_ble_eq_true rfl, Nat.le_of_ble_eq_true rfl⟩ ⟨Nat.zero_le _, Nat.zero_le _⟩ rfl rfl (Nat.le_of_ble_eq_true rfl) ?_
  refine x_lconst C dX7_readRight_4 5 rfl 0 (by decide) ?_
  refine x_lstore_n C dX7_readRight_5 6 rfl rfl rfl [(3, .long (0)), (0, .ref (x0)), (1, .long (x1))] rfl ?_
  refine x_aload_n C dX7_readRight_6 7 rfl 1 rfl rfl ?_
  refine x_bipush C dX7_readRight_7 9 rfl 59 (by decide) ?_
  obtain ⟨o9, ho9, hf⟩ := x_bind hf
  obtain ⟨w9, hw9, hf⟩ := x_bind hf
  refine x_callVi C dX7_readRight_9 12 rfl ho9 cl7.1 rfl (cX7_isSignc hw9) kX7_isSign kvX7_isSign w911 ⟨rfl, rfl⟩ ⟨Nat.le_of_ble_eq_true rfl, Nat.le_of_ble_eq_true rfl⟩ ⟨Nat.zero_le _, Nat.zero_le _⟩ rfl rfl (Nat.le_of_ble_eq_true rfl) ?_
  refine x_if_ne C dX7_readRight_12 47 (by decide) 15 rfl (fun hc => ?_) (fun hc => ?_)
  · have hf := (if_neg hc).symm.trans hf
    refine x_aload_n C dX7_readRight_47 48 rfl 1 rfl rfl ?_
    obtain ⟨v48, hv48, hf⟩ := x_bind hf
    refine x_getR C dX7_readRight_48 51 rfl hv48 cl7 rfl w285 ?_
    refine x_lload_n C dX7_readRight_51 52 rfl 2 rfl rfl ?_
    refine x_lload_n C dX7_readRight_52 53 rfl 0 rfl rfl ?_
    obtain ⟨o53, ho53, hf⟩ := x_bind hf
    obtain ⟨w53, hw53, hf⟩ := x_bind hf
    refine x_callVv C dX7_readRight_53 56 rfl ho53 cl8.1 rfl (cX8_addc hw53) kX8_add kvX8_add w940 ⟨rfl, rfl⟩ ⟨Nat.le_of_ble_eq_true rfl, Nat.le_of_ble_eq_true rfl⟩ ⟨Nat.zero_le _, Nat.zero_le _⟩ rfl rfl (Nat.le_of_ble_eq_true rfl) ?_
    refine x_iconst C dX7_readRight_56 57 rfl 0 (by decide) ?_
    exact x_iret C (hE _ (Option.some.inj hf).symm) dX7_readRight_57
  · have hf := (if_pos hc).symm.trans hf
    refine x_aload_n C dX7_readRight_15 16 rfl 1 rfl rfl ?_
    refine x_iconst C dX7_readRight_16 17 rfl 4 (by decide) ?_
    obtain ⟨o17, ho17, hf⟩ := x_bind hf
    obtain ⟨w17, hw17, hf⟩ := x_bind hf
    refine x_callVi C dX7_readRight_17 20 rfl ho17 cl7.1 rfl (cX7_sideFaultc hw17) kX7_sideFault kvX7_sideFault w924 ⟨rfl, rfl⟩ ⟨Nat.le_of_ble_eq_true rfl, Nat.le_of_ble_eq_true rfl⟩ ⟨Nat.zero_le _, Nat.zero_le _⟩ rfl rfl (Nat.le_of_ble_eq_true rfl) ?_
    refine x_istore C dX7_readRight_20 22 rfl rfl [(5, .int (w17)), (3, .long (0)), (0, .ref (x0)), (1, .long (x1))] rfl ?_
    refine x_iload C dX7_readRight_22 24 rfl 0 rfl ?_
    refine x_if_eq C dX7_readRight_24 30 (by decide) 27 rfl (fun hc => ?_) (fun hc => ?_)
    · have hf := (if_pos hc).symm.trans hf
      refine x_aload_n C dX7_readRight_30 31 rfl 2 rfl rfl ?_
      obtain ⟨o31, ho31, hf⟩ := x_bind hf
      obtain ⟨w31, hw31, hf⟩ := x_bind hf
      refine x_callVl C dX7_readRight_31 34 rfl ho31 cl7.1 rfl (cX7_sideWordc hw31) kX7_sideWord kvX7_sideWord w928 ⟨rfl, rfl⟩ ⟨Nat.le_of_ble_eq_true rfl, Nat.le_of_ble_eq_true rfl⟩ ⟨Nat.zero_le _, Nat.zero_le _⟩ rfl rfl (Nat.le_of_ble_eq_true rfl) ?_
      refine x_lstore_n C dX7_readRight_34 35 rfl rfl rfl [(3, .long (w31)), (5, .int (w17)), (0, .ref (x0)), (1, .long (x1))] rfl ?_
      refine x_lload_n C dX7_readRight_35 36 rfl 0 rfl rfl ?_
      refine x_lload_n C dX7_readRight_36 37 rfl 3 rfl rfl ?_
      refine x_lcmp C dX7_readRight_37 38 rfl ?_
      refine x_if_ne C dX7_readRight_38 43 (by decide) 41 rfl (fun hc => ?_) (fun hc => ?_)
      · have hf := (if_neg hc).symm.trans hf
        refine x_aload_n C dX7_readRight_43 44 rfl 2 rfl rfl ?_
        obtain ⟨o44, ho44, hf⟩ := x_bind hf
        obtain ⟨w44, hw44, hf⟩ := x_bind hf
        refine x_callVv C dX7_readRight_44 47 rfl ho44 cl7.1 rfl (cX7_nextc hw44) kX7_next kvX7_next w841 ⟨rfl, rfl⟩ ⟨Nat.le_of_ble_eq_true rfl, Nat.le_of_ble_eq_true rfl⟩ ⟨Nat.zero_le _, Nat.zero_le _⟩ rfl rfl (Nat.le_of_ble_eq_true rfl) ?_
        refine x_aload_n C dX7_readRight_47 48 rfl 2 rfl rfl ?_
        obtain ⟨v48, hv48, hf⟩ := x_bind hf
        refine x_getR C dX7_readRight_48 51 rfl hv48 cl7 rfl w285 ?_
        refine x_lload_n C dX7_readRight_51 52 rfl 3 rfl rfl ?_
        refine x_lload_n C dX7_readRight_52 53 rfl 0 rfl rfl ?_
        obtain ⟨o53, ho53, hf⟩ := x_bind hf
        obtain ⟨w53, hw53, hf⟩ := x_bind hf
        refine x_callVv C dX7_readRight_53 56 rfl ho53 cl8.1 rfl (cX8_addc hw53) kX8_add kvX8_add w940 ⟨rfl, rfl⟩ ⟨Nat.le_of_ble_eq_true rfl, Nat.le_of_ble_eq_true rfl⟩ ⟨Nat.zero_le _, Nat.zero_le _⟩ rfl rfl (Nat.le_of_ble_eq_true rfl) ?_
        refine x_iconst C dX7_readRight_56 57 rfl 0 (by decide) ?_
        exact x_iret C (hE _ (Option.some.inj hf).symm) dX7_readRight_57
      · have hf := (if_pos hc).symm.trans hf
        refine x_iconst C dX7_readRight_41 42 rfl 4 (by decide) ?_
        exact x_iret C (hE _ (Option.some.inj hf).symm) dX7_readRight_42
    · have hf := (if_neg hc).symm.trans hf
      refine x_iload C dX7_readRight_27 29 rfl 0 rfl ?_
      exact x_iret C (hE _ (Option.some.inj hf).symm) dX7_readRight_29
theorem dX7_readRule_0 : decode cX7_readRule 0 = .ok (.aload_n 0, 1) := by decide +kernel
theorem dX7_readRule_1 : decode cX7_readRule 1 = .ok (.getfield 12, 3) := by decide +kernel
theorem dX7_readRule_4 : decode cX7_readRule 4 = .ok (.getfield 81, 3) := by decide +kernel
theorem dX7_readRule_7 : decode cX7_readRule 7 = .ok (.bipush 6, 2) := by decide +kernel
theorem dX7_readRule_9 : decode cX7_readRule 9 = .ok (.if_icmp .lt 5, 3) := by decide +kernel
theorem dX7_readRule_12 : decode cX7_readRule 12 = .ok (.iconst 3, 1) := by decide +kernel
theorem dX7_readRule_13 : decode cX7_readRule 13 = .ok (.ireturn, 1) := by decide +kernel
theorem dX7_readRule_14 : decode cX7_readRule 14 = .ok (.aload_n 0, 1) := by decide +kernel
theorem dX7_readRule_15 : decode cX7_readRule 15 = .ok (.invokevirtual 43, 3) := by decide +kernel
theorem dX7_readRule_18 : decode cX7_readRule 18 = .ok (.aload_n 0, 1) := by decide +kernel
theorem dX7_readRule_19 : decode cX7_readRule 19 = .ok (.iconst 4, 1) := by decide +kernel
theorem dX7_readRule_20 : decode cX7_readRule 20 = .ok (.invokevirtual 84, 3) := by decide +kernel
theorem dX7_readRule_23 : decode cX7_readRule 23 = .ok (.istore_n 1, 1) := by decide +kernel
theorem dX7_readRule_24 : decode cX7_readRule 24 = .ok (.iload_n 1, 1) := by decide +kernel
theorem dX7_readRule_25 : decode cX7_readRule 25 = .ok (.ifCond .eq 5, 3) := by decide +kernel
theorem dX7_readRule_28 : decode cX7_readRule 28 = .ok (.iload_n 1, 1) := by decide +kernel
theorem dX7_readRule_29 : decode cX7_readRule 29 = .ok (.ireturn, 1) := by decide +kernel
theorem dX7_readRule_30 : decode cX7_readRule 30 = .ok (.aload_n 0, 1) := by decide +kernel
theorem dX7_readRule_31 : decode cX7_readRule 31 = .ok (.invokevirtual 87, 3) := by decide +kernel
theorem dX7_readRule_34 : decode cX7_readRule 34 = .ok (.lstore_n 2, 1) := by decide +kernel
theorem dX7_readRule_35 : decode cX7_readRule 35 = .ok (.aload_n 0, 1) := by decide +kernel
theorem dX7_readRule_36 : decode cX7_readRule 36 = .ok (.invokevirtual 43, 3) := by decide +kernel
theorem dX7_readRule_39 : decode cX7_readRule 39 = .ok (.aload_n 0, 1) := by decide +kernel
theorem dX7_readRule_40 : decode cX7_readRule 40 = .ok (.bipush 62, 2) := by decide +kernel
theorem dX7_readRule_42 : decode cX7_readRule 42 = .ok (.invokevirtual 39, 3) := by decide +kernel
theorem dX7_readRule_45 : decode cX7_readRule 45 = .ok (.ifCond .eq 11, 3) := by decide +kernel
theorem dX7_readRule_48 : decode cX7_readRule 48 = .ok (.aload_n 0, 1) := by decide +kernel
theorem dX7_readRule_49 : decode cX7_readRule 49 = .ok (.lload_n 2, 1) := by decide +kernel
theorem dX7_readRule_50 : decode cX7_readRule 50 = .ok (.invokevirtual 91, 3) := by decide +kernel
theorem dX7_readRule_53 : decode cX7_readRule 53 = .ok (.goto 4, 3) := by decide +kernel
theorem dX7_readRule_56 : decode cX7_readRule 56 = .ok (.iconst 1, 1) := by decide +kernel
theorem dX7_readRule_57 : decode cX7_readRule 57 = .ok (.ireturn, 1) := by decide +kernel
abbrev rmX7_readRule : Room := { frames := 3, cells := 0, slots := 0, locals := 71 }
noncomputable def fX7_readRule (σ : St) (x0 : Nat) : Option ((Int32 × St)) :=
(gR σ x0 7 0).bind fun v1 =>
(gI σ v1 8 1).bind fun v4 =>
if v4 < ((6 : Int32)) then
((isO σ x0 7).bind fun _ =>
(fX7_next σ x0).bind fun w15 =>
(isO w15 x0 7).bind fun _ =>
(fX7_sideFault w15 x0 4).bind fun w20 =>
if w20 = 0 then
((isO w15 x0 7).bind fun _ =>
(fX7_sideWord w15 x0).bind fun w31 =>
(isO w15 x0 7).bind fun _ =>
(fX7_next w15 x0).bind fun w36 =>
(isO w36 x0 7).bind fun _ =>
(fX7_isSign w36 x0 62).bind fun w42 =>
if w42 = 0 then
(some (1, w36))
else
((isO w36 x0 7).bind fun _ =>
(fX7_readRight w36 x0 w31).bind fun w50 =>
some (w50.1, w50.2)))
else
(some (w20, w15)))
else
(some (3, σ))
set_option maxHeartbeats 4000000 in
set_option maxRecDepth 100000 in
theorem cX7_readRulec {l : Launch} {G : xG} {A : Nat → Prop} {σ : St} {x0 : Nat} {c : (Int32 × St)} (hf : fX7_readRule σ x0 = some c) : Con l yX7_readRule (xws yX7_readRule cX7_readRule 4 (some .int)) rmX7_readRule [.ref (x0)] G A σ (some (.int c.1)) c.2 := by
  refine x_start rfl (Nat.le_of_ble_eq_true rfl) (fun X _ _ _ C hE0 => ?_)
  have hE : ∀ r, c = r → xE1 X (some (.int r.1)) r.2 := fun r e => e ▸ hE0
  show V X (0, 0) σ 0 [(0, .ref (x0))] []
  unfold fX7_readRule at hf
  refine x_aload_n C dX7_readRule_0 1 rfl 0 rfl rfl ?_
  obtain ⟨v1, hv1, hf⟩ := x_bind hf
  refine x_getR C dX7_readRule_1 4 rfl hv1 cl7 rfl w285 ?_
  obtain ⟨v4, hv4, hf⟩ := x_bind hf
  refine x_getI C dX7_readRule_4 7 rfl hv4 cl8 rfl w188 ?_
  refine x_bipush C dX7_readRule_7 9 rfl 6 (by decide) ?_
  refine x_icmp_lt C dX7_readRule_9 14 (by decide) 12 rfl (fun hc => ?_) (fun hc => ?_)
  · have hf := (if_pos hc).symm.trans hf
    refine x_aload_n C dX7_readRule_14 15 rfl 0 rfl rfl ?_
    obtain ⟨o15, ho15, hf⟩ := x_bind hf
    obtain ⟨w15, hw15, hf⟩ := x_bind hf
    refine x_callVv C dX7_readRule_15 18 rfl ho15 cl7.1 rfl (cX7_nextc hw15) kX7_next kvX7_next w841 ⟨rfl, rfl⟩ ⟨Nat.le_of_ble_eq_true rfl, Nat.le_of_ble_eq_true rfl⟩ ⟨Nat.zero_le _, Nat.zero_le _⟩ rfl rfl (Nat.le_of_ble_eq_true rfl) ?_
    refine x_aload_n C dX7_readRule_18 19 rfl 0 rfl rfl ?_
    refine x_iconst C dX7_readRule_19 20 rfl 4 (by decide) ?_
    obtain ⟨o20, ho20, hf⟩ := x_bind hf
    obtain ⟨w20, hw20, hf⟩ := x_bind hf
    refine x_callVi C dX7_readRule_20 23 rfl ho20 cl7.1 rfl (cX7_sideFaultc hw20) kX7_sideFault kvX7_sideFault w924 ⟨rfl, rfl⟩ ⟨Nat.le_of_ble_eq_true rfl, Nat.le_of_ble_eq_true rfl⟩ ⟨Nat.zero_le _, Nat.zero_le _⟩ rfl rfl (Nat.le_of_ble_eq_true rfl) ?_
    refine x_istore_n C dX7_readRule_23 24 rfl rfl rfl [(1, .int (w20)), (0, .ref (x0))] rfl ?_
    refine x_iload_n C dX7_readRule_24 25 rfl 0 rfl rfl ?_
    refine x_if_eq C dX7_readRule_25 30 (by decide) 28 rfl (fun hc => ?_) (fun hc => ?_)
    · have hf := (if_pos hc).symm.trans hf
      refine x_aload_n C dX7_readRule_30 31 rfl 1 rfl rfl ?_
      obtain ⟨o31, ho31, hf⟩ := x_bind hf
      obtain ⟨w31, hw31, hf⟩ := x_bind hf
      refine x_callVl C dX7_readRule_31 34 rfl ho31 cl7.1 rfl (cX7_sideWordc hw31) kX7_sideWord kvX7_sideWord w928 ⟨rfl, rfl⟩ ⟨Nat.le_of_ble_eq_true rfl, Nat.le_of_ble_eq_true rfl⟩ ⟨Nat.zero_le _, Nat.zero_le _⟩ rfl rfl (Nat.le_of_ble_eq_true rfl) ?_
      refine x_lstore_n C dX7_readRule_34 35 rfl rfl rfl [(2, .long (w31)), (1, .int (w20)), (0, .ref (x0))] rfl ?_
      refine x_aload_n C dX7_readRule_35 36 rfl 2 rfl rfl ?_
      obtain ⟨o36, ho36, hf⟩ := x_bind hf
      obtain ⟨w36, hw36, hf⟩ := x_bind hf
      refine x_callVv C dX7_readRule_36 39 rfl ho36 cl7.1 rfl (cX7_nextc hw36) kX7_next kvX7_next w841 ⟨rfl, rfl⟩ ⟨Nat.le_of_ble_eq_true rfl, Nat.le_of_ble_eq_true rfl⟩ ⟨Nat.zero_le _, Nat.zero_le _⟩ rfl rfl (Nat.le_of_ble_eq_true rfl) ?_
      refine x_aload_n C dX7_readRule_39 40 rfl 2 rfl rfl ?_
      refine x_bipush C dX7_readRule_40 42 rfl 62 (by decide) ?_
      obtain ⟨o42, ho42, hf⟩ := x_bind hf
      obtain ⟨w42, hw42, hf⟩ := x_bind hf
      refine x_callVi C dX7_readRule_42 45 rfl ho42 cl7.1 rfl (cX7_isSignc hw42) kX7_isSign kvX7_isSign w911 ⟨rfl, rfl⟩ ⟨Nat.le_of_ble_eq_true rfl, Nat.le_of_ble_eq_true rfl⟩ ⟨Nat.zero_le _, Nat.zero_le _⟩ rfl rfl (Nat.le_of_ble_eq_true rfl) ?_
      refine x_if_eq C dX7_readRule_45 56 (by decide) 48 rfl (fun hc => ?_) (fun hc => ?_)
      · have hf := (if_pos hc).symm.trans hf
        refine x_iconst C dX7_readRule_56 57 rfl 1 (by decide) ?_
        exact x_iret C (hE _ (Option.some.inj hf).symm) dX7_readRule_57
      · have hf := (if_neg hc).symm.trans hf
        refine x_aload_n C dX7_readRule_48 49 rfl 2 rfl rfl ?_
        refine x_lload_n C dX7_readRule_49 50 rfl 0 rfl rfl ?_
        obtain ⟨o50, ho50, hf⟩ := x_bind hf
        obtain ⟨w50, hw50, hf⟩ := x_bind hf
        refine x_callVi C dX7_readRule_50 53 rfl ho50 cl7.1 rfl (cX7_readRightc hw50) kX7_readRight kvX7_readRight w936 ⟨rfl, rfl⟩ ⟨Nat.le_of_ble_eq_true rfl, Nat.le_of_ble_eq_true rfl⟩ ⟨Nat.zero_le _, Nat.zero_le _⟩ rfl rfl (Nat.le_of_ble_eq_true rfl) ?_
        refine x_goto C dX7_readRule_53 57 (by decide) ?_
        exact x_iret C (hE _ (Option.some.inj hf).symm) dX7_readRule_57
    · have hf := (if_neg hc).symm.trans hf
      refine x_iload_n C dX7_readRule_28 29 rfl 0 rfl rfl ?_
      exact x_iret C (hE _ (Option.some.inj hf).symm) dX7_readRule_29
  · have hf := (if_neg hc).symm.trans hf
    refine x_iconst C dX7_readRule_12 13 rfl 3 (by decide) ?_
    exact x_iret C (hE _ (Option.some.inj hf).symm) dX7_readRule_13
theorem dX7_readWeigh_0 : decode cX7_readWeigh 0 = .ok (.aload_n 0, 1) := by decide +kernel
theorem dX7_readWeigh_1 : decode cX7_readWeigh 1 = .ok (.invokevirtual 43, 3) := by decide +kernel
theorem dX7_readWeigh_4 : decode cX7_readWeigh 4 = .ok (.aload_n 0, 1) := by decide +kernel
theorem dX7_readWeigh_5 : decode cX7_readWeigh 5 = .ok (.iconst 1, 1) := by decide +kernel
theorem dX7_readWeigh_6 : decode cX7_readWeigh 6 = .ok (.invokevirtual 84, 3) := by decide +kernel
theorem dX7_readWeigh_9 : decode cX7_readWeigh 9 = .ok (.istore_n 1, 1) := by decide +kernel
theorem dX7_readWeigh_10 : decode cX7_readWeigh 10 = .ok (.iload_n 1, 1) := by decide +kernel
theorem dX7_readWeigh_11 : decode cX7_readWeigh 11 = .ok (.ifCond .eq 5, 3) := by decide +kernel
theorem dX7_readWeigh_14 : decode cX7_readWeigh 14 = .ok (.iload_n 1, 1) := by decide +kernel
theorem dX7_readWeigh_15 : decode cX7_readWeigh 15 = .ok (.ireturn, 1) := by decide +kernel
theorem dX7_readWeigh_16 : decode cX7_readWeigh 16 = .ok (.aload_n 0, 1) := by decide +kernel
theorem dX7_readWeigh_17 : decode cX7_readWeigh 17 = .ok (.getfield 31, 3) := by decide +kernel
theorem dX7_readWeigh_20 : decode cX7_readWeigh 20 = .ok (.aload_n 0, 1) := by decide +kernel
theorem dX7_readWeigh_21 : decode cX7_readWeigh 21 = .ok (.getfield 25, 3) := by decide +kernel
theorem dX7_readWeigh_24 : decode cX7_readWeigh 24 = .ok (.iaload, 1) := by decide +kernel
theorem dX7_readWeigh_25 : decode cX7_readWeigh 25 = .ok (.bipush 97, 2) := by decide +kernel
theorem dX7_readWeigh_27 : decode cX7_readWeigh 27 = .ok (.isub, 1) := by decide +kernel
theorem dX7_readWeigh_28 : decode cX7_readWeigh 28 = .ok (.istore_n 2, 1) := by decide +kernel
theorem dX7_readWeigh_29 : decode cX7_readWeigh 29 = .ok (.aload_n 0, 1) := by decide +kernel
theorem dX7_readWeigh_30 : decode cX7_readWeigh 30 = .ok (.invokevirtual 43, 3) := by decide +kernel
theorem dX7_readWeigh_33 : decode cX7_readWeigh 33 = .ok (.aload_n 0, 1) := by decide +kernel
theorem dX7_readWeigh_34 : decode cX7_readWeigh 34 = .ok (.bipush 9, 2) := by decide +kernel
theorem dX7_readWeigh_36 : decode cX7_readWeigh 36 = .ok (.invokevirtual 55, 3) := by decide +kernel
theorem dX7_readWeigh_39 : decode cX7_readWeigh 39 = .ok (.istore_n 1, 1) := by decide +kernel
theorem dX7_readWeigh_40 : decode cX7_readWeigh 40 = .ok (.iload_n 1, 1) := by decide +kernel
theorem dX7_readWeigh_41 : decode cX7_readWeigh 41 = .ok (.ifCond .eq 5, 3) := by decide +kernel
theorem dX7_readWeigh_44 : decode cX7_readWeigh 44 = .ok (.iload_n 1, 1) := by decide +kernel
theorem dX7_readWeigh_45 : decode cX7_readWeigh 45 = .ok (.ireturn, 1) := by decide +kernel
theorem dX7_readWeigh_46 : decode cX7_readWeigh 46 = .ok (.aload_n 0, 1) := by decide +kernel
theorem dX7_readWeigh_47 : decode cX7_readWeigh 47 = .ok (.getfield 12, 3) := by decide +kernel
theorem dX7_readWeigh_50 : decode cX7_readWeigh 50 = .ok (.getfield 99, 3) := by decide +kernel
theorem dX7_readWeigh_53 : decode cX7_readWeigh 53 = .ok (.iload_n 2, 1) := by decide +kernel
theorem dX7_readWeigh_54 : decode cX7_readWeigh 54 = .ok (.aload_n 0, 1) := by decide +kernel
theorem dX7_readWeigh_55 : decode cX7_readWeigh 55 = .ok (.invokevirtual 59, 3) := by decide +kernel
theorem dX7_readWeigh_58 : decode cX7_readWeigh 58 = .ok (.iastore, 1) := by decide +kernel
theorem dX7_readWeigh_59 : decode cX7_readWeigh 59 = .ok (.aload_n 0, 1) := by decide +kernel
theorem dX7_readWeigh_60 : decode cX7_readWeigh 60 = .ok (.invokevirtual 43, 3) := by decide +kernel
theorem dX7_readWeigh_63 : decode cX7_readWeigh 63 = .ok (.iconst 0, 1) := by decide +kernel
theorem dX7_readWeigh_64 : decode cX7_readWeigh 64 = .ok (.ireturn, 1) := by decide +kernel
abbrev rmX7_readWeigh : Room := { frames := 2, cells := 0, slots := 0, locals := 44 }
noncomputable def fX7_readWeigh (σ : St) (x0 : Nat) : Option ((Int32 × St)) :=
(isO σ x0 7).bind fun _ =>
(fX7_next σ x0).bind fun w1 =>
(isO w1 x0 7).bind fun _ =>
(fX7_sideFault w1 x0 1).bind fun w6 =>
if w6 = 0 then
((gR w1 x0 7 1).bind fun v17 =>
(gI w1 x0 7 4).bind fun v21 =>
(aI w1 v17 0 v21).bind fun v24 =>
xlet (v24 - 97) fun v28 =>
(isO w1 x0 7).bind fun _ =>
(fX7_next w1 x0).bind fun w30 =>
(isO w30 x0 7).bind fun _ =>
(fX7_numberFault w30 x0 9).bind fun w36 =>
if w36 = 0 then
((gR w30 x0 7 0).bind fun v47 =>
(gR w30 v47 8 4).bind fun v50 =>
(isO w30 x0 7).bind fun _ =>
(fX7_number w30 x0).bind fun w55 =>
(sI w30 v50 v28 w55).bind fun σ58 =>
(isO σ58 x0 7).bind fun _ =>
(fX7_next σ58 x0).bind fun w60 =>
some (0, w60))
else
(some (w36, w30)))
else
(some (w6, w1))
set_option maxHeartbeats 4000000 in
set_option maxRecDepth 100000 in
theorem cX7_readWeighc {l : Launch} {G : xG} {A : Nat → Prop} {σ : St} {x0 : Nat} {c : (Int32 × St)} (hf : fX7_readWeigh σ x0 = some c) : Con l yX7_readWeigh (xws yX7_readWeigh cX7_readWeigh 3 (some .int)) rmX7_readWeigh [.ref (x0)] G A σ (some (.int c.1)) c.2 := by
  refine x_start rfl (Nat.le_of_ble_eq_true rfl) (fun X _ _ _ C hE0 => ?_)
  have hE : ∀ r, c = r → xE1 X (some (.int r.1)) r.2 := fun r e => e ▸ hE0
  show V X (0, 0) σ 0 [(0, .ref (x0))] []
  unfold fX7_readWeigh at hf
  refine x_aload_n C dX7_readWeigh_0 1 rfl 0 rfl rfl ?_
  obtain ⟨o1, ho1, hf⟩ := x_bind hf
  obtain ⟨w1, hw1, hf⟩ := x_bind hf
  refine x_callVv C dX7_readWeigh_1 4 rfl ho1 cl7.1 rfl (cX7_nextc hw1) kX7_next kvX7_next w841 ⟨rfl, rfl⟩ ⟨Nat.le_of_ble_eq_true rfl, Nat.le_of_ble_eq_true rfl⟩ ⟨Nat.zero_le _, Nat.zero_le _⟩ rfl rfl (Nat.le_of_ble_eq_true rfl) ?_
  refine x_aload_n C dX7_readWeigh_4 5 rfl 0 rfl rfl ?_
  refine x_iconst C dX7_readWeigh_5 6 rfl 1 (by decide) ?_
  obtain ⟨o6, ho6, hf⟩ := x_bind hf
  obtain ⟨w6, hw6, hf⟩ := x_bind hf
  refine x_callVi C dX7_readWeigh_6 9 rfl ho6 cl7.1 rfl (cX7_sideFaultc hw6) kX7_sideFault kvX7_sideFault w924 ⟨rfl, rfl⟩ ⟨Nat.le_of_ble_eq_true rfl, Nat.le_of_ble_eq_true rfl⟩ ⟨Nat.zero_le _, Nat.zero_le _⟩ rfl rfl (Nat.le_of_ble_eq_true rfl) ?_
  refine x_istore_n C dX7_readWeigh_9 10 rfl rfl rfl [(1, .int (w6)), (0, .ref (x0))] rfl ?_
  refine x_iload_n C dX7_readWeigh_10 11 rfl 0 rfl rfl ?_
  refine x_if_eq C dX7_readWeigh_11 16 (by decide) 14 rfl (fun hc => ?_) (fun hc => ?_)
  · have hf := (if_pos hc).symm.trans hf
    refine x_aload_n C dX7_readWeigh_16 17 rfl 1 rfl rfl ?_
    obtain ⟨v17, hv17, hf⟩ := x_bind hf
    refine x_getR C dX7_readWeigh_17 20 rfl hv17 cl7 rfl w287 ?_
    refine x_aload_n C dX7_readWeigh_20 21 rfl 1 rfl rfl ?_
    obtain ⟨v21, hv21, hf⟩ := x_bind hf
    refine x_getI C dX7_readWeigh_21 24 rfl hv21 cl7 rfl w290 ?_
    obtain ⟨v24, hv24, hf⟩ := x_bind hf
    refine x_iaload C dX7_readWeigh_24 25 rfl hv24 ?_
    refine x_bipush C dX7_readWeigh_25 27 rfl 97 (by decide) ?_
    refine x_isub C dX7_readWeigh_27 28 rfl ?_
    obtain ⟨v28, ev28, hf⟩ := xlet_some hf
    refine x_topi ev28 ?_
    refine x_istore_n C dX7_readWeigh_28 29 rfl rfl rfl [(2, .int (v28)), (1, .int (w6)), (0, .ref (x0))] rfl ?_
    refine x_aload_n C dX7_readWeigh_29 30 rfl 2 rfl rfl ?_
    obtain ⟨o30, ho30, hf⟩ := x_bind hf
    obtain ⟨w30, hw30, hf⟩ := x_bind hf
    refine x_callVv C dX7_readWeigh_30 33 rfl ho30 cl7.1 rfl (cX7_nextc hw30) kX7_next kvX7_next w841 ⟨rfl, rfl⟩ ⟨Nat.le_of_ble_eq_true rfl, Nat.le_of_ble_eq_true rfl⟩ ⟨Nat.zero_le _, Nat.zero_le _⟩ rfl rfl (Nat.le_of_ble_eq_true rfl) ?_
    refine x_aload_n C dX7_readWeigh_33 34 rfl 2 rfl rfl ?_
    refine x_bipush C dX7_readWeigh_34 36 rfl 9 (by decide) ?_
    obtain ⟨o36, ho36, hf⟩ := x_bind hf
    obtain ⟨w36, hw36, hf⟩ := x_bind hf
    refine x_callVi C dX7_readWeigh_36 39 rfl ho36 cl7.1 rfl (cX7_numberFaultc hw36) kX7_numberFault kvX7_numberFault w902 ⟨rfl, rfl⟩ ⟨Nat.le_of_ble_eq_true rfl, Nat.le_of_ble_eq_true rfl⟩ ⟨Nat.zero_le _, Nat.zero_le _⟩ rfl rfl (Nat.le_of_ble_eq_true rfl) ?_
    refine x_istore_n C dX7_readWeigh_39 40 rfl rfl rfl [(1, .int (w36)), (2, .int (v28)), (0, .ref (x0))] rfl ?_
    refine x_iload_n C dX7_readWeigh_40 41 rfl 0 rfl rfl ?_
    refine x_if_eq C dX7_readWeigh_41 46 (by decide) 44 rfl (fun hc => ?_) (fun hc => ?_)
    · have hf := (if_pos hc).symm.trans hf
      refine x_aload_n C dX7_readWeigh_46 47 rfl 2 rfl rfl ?_
      obtain ⟨v47, hv47, hf⟩ := x_bind hf
      refine x_getR C dX7_readWeigh_47 50 rfl hv47 cl7 rfl w285 ?_
      obtain ⟨v50, hv50, hf⟩ := x_bind hf
      refine x_getR C dX7_readWeigh_50 53 rfl hv50 cl8 rfl w203 ?_
      refine x_iload_n C dX7_readWeigh_53 54 rfl 1 rfl rfl ?_
      refine x_aload_n C dX7_readWeigh_54 55 rfl 2 rfl rfl ?_
      obtain ⟨o55, ho55, hf⟩ := x_bind hf
      obtain ⟨w55, hw55, hf⟩ := x_bind hf
      refine x_callVi C dX7_readWeigh_55 58 rfl ho55 cl7.1 rfl (cX7_numberc hw55) kX7_number kvX7_number w906 ⟨rfl, rfl⟩ ⟨Nat.le_of_ble_eq_true rfl, Nat.le_of_ble_eq_true rfl⟩ ⟨Nat.zero_le _, Nat.zero_le _⟩ rfl rfl (Nat.le_of_ble_eq_true rfl) ?_
      obtain ⟨σ58, hσ58, hf⟩ := x_bind hf
      refine x_iastore C dX7_readWeigh_58 59 rfl hσ58 ?_
      refine x_aload_n C dX7_readWeigh_59 60 rfl 2 rfl rfl ?_
      obtain ⟨o60, ho60, hf⟩ := x_bind hf
      obtain ⟨w60, hw60, hf⟩ := x_bind hf
      refine x_callVv C dX7_readWeigh_60 63 rfl ho60 cl7.1 rfl (cX7_nextc hw60) kX7_next kvX7_next w841 ⟨rfl, rfl⟩ ⟨Nat.le_of_ble_eq_true rfl, Nat.le_of_ble_eq_true rfl⟩ ⟨Nat.zero_le _, Nat.zero_le _⟩ rfl rfl (Nat.le_of_ble_eq_true rfl) ?_
      refine x_iconst C dX7_readWeigh_63 64 rfl 0 (by decide) ?_
      exact x_iret C (hE _ (Option.some.inj hf).symm) dX7_readWeigh_64
    · have hf := (if_neg hc).symm.trans hf
      refine x_iload_n C dX7_readWeigh_44 45 rfl 0 rfl rfl ?_
      exact x_iret C (hE _ (Option.some.inj hf).symm) dX7_readWeigh_45
  · have hf := (if_neg hc).symm.trans hf
    refine x_iload_n C dX7_readWeigh_14 15 rfl 0 rfl rfl ?_
    exact x_iret C (hE _ (Option.some.inj hf).symm) dX7_readWeigh_15
theorem dX8_allWeighLess_0 : decode cX8_allWeighLess 0 = .ok (.iconst 0, 1) := by decide +kernel
theorem dX8_allWeighLess_1 : decode cX8_allWeighLess 1 = .ok (.istore_n 1, 1) := by decide +kernel
theorem dX8_allWeighLess_2 : decode cX8_allWeighLess 2 = .ok (.iload_n 1, 1) := by decide +kernel
theorem dX8_allWeighLess_3 : decode cX8_allWeighLess 3 = .ok (.aload_n 0, 1) := by decide +kernel
theorem dX8_allWeighLess_4 : decode cX8_allWeighLess 4 = .ok (.getfield 15, 3) := by decide +kernel
theorem dX8_allWeighLess_7 : decode cX8_allWeighLess 7 = .ok (.if_icmp .ge 40, 3) := by decide +kernel
theorem dX8_allWeighLess_10 : decode cX8_allWeighLess 10 = .ok (.aload_n 0, 1) := by decide +kernel
theorem dX8_allWeighLess_11 : decode cX8_allWeighLess 11 = .ok (.getfield 35, 3) := by decide +kernel
theorem dX8_allWeighLess_14 : decode cX8_allWeighLess 14 = .ok (.aload_n 0, 1) := by decide +kernel
theorem dX8_allWeighLess_15 : decode cX8_allWeighLess 15 = .ok (.getfield 18, 3) := by decide +kernel
theorem dX8_allWeighLess_18 : decode cX8_allWeighLess 18 = .ok (.iload_n 1, 1) := by decide +kernel
theorem dX8_allWeighLess_19 : decode cX8_allWeighLess 19 = .ok (.laload, 1) := by decide +kernel
theorem dX8_allWeighLess_20 : decode cX8_allWeighLess 20 = .ok (.invokestatic 55, 3) := by decide +kernel
theorem dX8_allWeighLess_23 : decode cX8_allWeighLess 23 = .ok (.aload_n 0, 1) := by decide +kernel
theorem dX8_allWeighLess_24 : decode cX8_allWeighLess 24 = .ok (.getfield 35, 3) := by decide +kernel
theorem dX8_allWeighLess_27 : decode cX8_allWeighLess 27 = .ok (.aload_n 0, 1) := by decide +kernel
theorem dX8_allWeighLess_28 : decode cX8_allWeighLess 28 = .ok (.getfield 22, 3) := by decide +kernel
theorem dX8_allWeighLess_31 : decode cX8_allWeighLess 31 = .ok (.iload_n 1, 1) := by decide +kernel
theorem dX8_allWeighLess_32 : decode cX8_allWeighLess 32 = .ok (.laload, 1) := by decide +kernel
theorem dX8_allWeighLess_33 : decode cX8_allWeighLess 33 = .ok (.invokestatic 55, 3) := by decide +kernel
theorem dX8_allWeighLess_36 : decode cX8_allWeighLess 36 = .ok (.if_icmp .gt 5, 3) := by decide +kernel
theorem dX8_allWeighLess_39 : decode cX8_allWeighLess 39 = .ok (.iconst 0, 1) := by decide +kernel
theorem dX8_allWeighLess_40 : decode cX8_allWeighLess 40 = .ok (.ireturn, 1) := by decide +kernel
theorem dX8_allWeighLess_41 : decode cX8_allWeighLess 41 = .ok (.iinc 1 1, 3) := by decide +kernel
theorem dX8_allWeighLess_44 : decode cX8_allWeighLess 44 = .ok (.goto (-42), 3) := by decide +kernel
theorem dX8_allWeighLess_47 : decode cX8_allWeighLess 47 = .ok (.iconst 1, 1) := by decide +kernel
theorem dX8_allWeighLess_48 : decode cX8_allWeighLess 48 = .ok (.ireturn, 1) := by decide +kernel
abbrev rmX8_allWeighLess : Room := { frames := 1, cells := 0, slots := 0, locals := 26 }
noncomputable def fLX8_allWeighLess_2 (σ : St) (x0 : Nat) (a : Int32) : Option ((Int32) ⊕ ((Unit) ⊕ (Unit))) :=
(gI σ x0 8 1).bind fun v4 =>
if v4 ≤ a then
(some (Sum.inr (Sum.inr ())))
else
((gR σ x0 8 7).bind fun v11 =>
(gR σ x0 8 2).bind fun v15 =>
(aL σ v15 a).bind fun v19 =>
(fX8_weighBy σ v11 v19).bind fun w20 =>
(gR σ x0 8 7).bind fun v24 =>
(gR σ x0 8 3).bind fun v28 =>
(aL σ v28 a).bind fun v32 =>
(fX8_weighBy σ v24 v32).bind fun w33 =>
if w33 < w20 then
(xlet (a + 1) fun v41 =>
some (Sum.inl v41))
else
(some (Sum.inr (Sum.inl ()))))
set_option maxHeartbeats 4000000 in
set_option maxRecDepth 100000 in
theorem lpX8_allWeighLess_2 {X : xX} {σ : St} {x0 : Nat}  {a0 : Int32} {b : (Unit) ⊕ (Unit)} (C : Ok X cX8_allWeighLess 2 RX8 rmX8_allWeighLess (some .boolean)) (hb : iterP (fLX8_allWeighLess_2 σ x0) a0 = some b) (hy0 : ∀ s, b = (Sum.inl s) → V X (0, 0) σ 39 [] []) (hy1 : ∀ s, b = (Sum.inr s) → V X (0, 0) σ 47 [] []) : V X (0, 0) σ 2 [(0, .ref (x0)), (1, .int (a0))] [] := by
  obtain ⟨n, hn⟩ := iterP_some hb
  refine x_loop (P := fun a => V X (0, 0) σ 2 [(0, .ref (x0)), (1, .int (a))] []) ?_ n a0 hn
  intro a c hf hK hxx
  have hx0 : ∀ s, c = Sum.inr (Sum.inl s) → V X (0, 0) σ 39 [] [] := fun s e => hy0 s (hxx _ e).symm
  have hx1 : ∀ s, c = Sum.inr (Sum.inr s) → V X (0, 0) σ 47 [] [] := fun s e => hy1 s (hxx _ e).symm
  unfold fLX8_allWeighLess_2 at hf
  refine x_iload_n C dX8_allWeighLess_2 3 rfl 1 rfl rfl ?_
  refine x_aload_n C dX8_allWeighLess_3 4 rfl 0 rfl rfl ?_
  obtain ⟨v4, hv4, hf⟩ := x_bind hf
  refine x_getI C dX8_allWeighLess_4 7 rfl hv4 cl8 rfl w182 ?_
  refine x_icmp_ge C dX8_allWeighLess_7 47 (by decide) 10 rfl (fun hc => ?_) (fun hc => ?_)
  · have hf := (if_pos hc).symm.trans hf
    refine x_lv [] (lv' := []) rfl ?_
    exact hx1 _ (Option.some.inj hf).symm
  · have hf := (if_neg hc).symm.trans hf
    refine x_aload_n C dX8_allWeighLess_10 11 rfl 0 rfl rfl ?_
    obtain ⟨v11, hv11, hf⟩ := x_bind hf
    refine x_getR C dX8_allWeighLess_11 14 rfl hv11 cl8 rfl w211 ?_
    refine x_aload_n C dX8_allWeighLess_14 15 rfl 0 rfl rfl ?_
    obtain ⟨v15, hv15, hf⟩ := x_bind hf
    refine x_getR C dX8_allWeighLess_15 18 rfl hv15 cl8 rfl w189 ?_
    refine x_iload_n C dX8_allWeighLess_18 19 rfl 1 rfl rfl ?_
    obtain ⟨v19, hv19, hf⟩ := x_bind hf
    refine x_laload C dX8_allWeighLess_19 20 rfl hv19 ?_
    obtain ⟨w20, hw20, hf⟩ := x_bind hf
    refine x_callSi C dX8_allWeighLess_20 23 rfl (cX8_weighByc hw20) kX8_weighBy ksX8_weighBy w604 ⟨rfl, rfl⟩ ⟨Nat.le_of_ble_eq_true rfl, Nat.le_of_ble_eq_true rfl⟩ ⟨Nat.zero_le _, Nat.zero_le _⟩ rfl rfl (Nat.le_of_ble_eq_true rfl) ?_
    refine x_aload_n C dX8_allWeighLess_23 24 rfl 0 rfl rfl ?_
    obtain ⟨v24, hv24, hf⟩ := x_bind hf
    refine x_getR C dX8_allWeighLess_24 27 rfl hv24 cl8 rfl w211 ?_
    refine x_aload_n C dX8_allWeighLess_27 28 rfl 0 rfl rfl ?_
    obtain ⟨v28, hv28, hf⟩ := x_bind hf
    refine x_getR C dX8_allWeighLess_28 31 rfl hv28 cl8 rfl w196 ?_
    refine x_iload_n C dX8_allWeighLess_31 32 rfl 1 rfl rfl ?_
    obtain ⟨v32, hv32, hf⟩ := x_bind hf
    refine x_laload C dX8_allWeighLess_32 33 rfl hv32 ?_
    obtain ⟨w33, hw33, hf⟩ := x_bind hf
    refine x_callSi C dX8_allWeighLess_33 36 rfl (cX8_weighByc hw33) kX8_weighBy ksX8_weighBy w604 ⟨rfl, rfl⟩ ⟨Nat.le_of_ble_eq_true rfl, Nat.le_of_ble_eq_true rfl⟩ ⟨Nat.zero_le _, Nat.zero_le _⟩ rfl rfl (Nat.le_of_ble_eq_true rfl) ?_
    refine x_icmp_gt C dX8_allWeighLess_36 41 (by decide) 39 rfl (fun hc => ?_) (fun hc => ?_)
    · have hf := (if_pos hc).symm.trans hf
      obtain ⟨v41, ev41, hf⟩ := xlet_some hf
      refine x_iinc C dX8_allWeighLess_41 44 rfl 1 rfl v41 ev41 rfl [(1, .int (v41)), (0, .ref (x0))] rfl ?_
      refine x_goto C dX8_allWeighLess_44 2 (by decide) ?_
      refine x_lv [1, 0] (lv' := [(0, .ref (x0)), (1, .int (v41))]) rfl ?_
      exact hK _ (Option.some.inj hf).symm
    · have hf := (if_neg hc).symm.trans hf
      refine x_lv [] (lv' := []) rfl ?_
      exact hx0 _ (Option.some.inj hf).symm
noncomputable def fX8_allWeighLess (σ : St) (x0 : Nat) : Option (Int32) :=
(iterP (fLX8_allWeighLess_2 σ x0) 0).bind fun b2 =>
(match b2 with
| .inl s2 =>
some 0
| .inr s2 =>
some 1)
set_option maxHeartbeats 4000000 in
set_option maxRecDepth 100000 in
theorem cX8_allWeighLessc {l : Launch} {G : xG} {A : Nat → Prop} {σ : St} {x0 : Nat} {c : Int32} (hf : fX8_allWeighLess σ x0 = some c) : Con l yX8_allWeighLess (xws yX8_allWeighLess cX8_allWeighLess 2 (some .boolean)) rmX8_allWeighLess [.ref (x0)] G A σ (some (.int c)) σ := by
  refine x_start rfl (Nat.le_of_ble_eq_true rfl) (fun X _ _ _ C hE0 => ?_)
  have hE : ∀ r, c = r → xE1 X (some (.int r)) σ := fun r e => e ▸ hE0
  show V X (0, 0) σ 0 [(0, .ref (x0))] []
  unfold fX8_allWeighLess at hf
  refine x_iconst C dX8_allWeighLess_0 1 rfl 0 (by decide) ?_
  refine x_istore_n C dX8_allWeighLess_1 2 rfl rfl rfl [(1, .int (0)), (0, .ref (x0))] rfl ?_
  obtain ⟨b2, hb2, hf⟩ := x_bind hf
  refine x_lv [1, 0] (lv' := [(0, .ref (x0)), (1, .int (0))]) rfl ?_
  refine lpX8_allWeighLess_2 C hb2 (fun s2 e2 => ?_) (fun s2 e2 => ?_)
  · subst e2
    try dsimp only at hf
    refine x_iconst C dX8_allWeighLess_39 40 rfl 0 (by decide) ?_
    exact x_zret C rfl (hE _ (Option.some.inj hf).symm) dX8_allWeighLess_40
  · subst e2
    try dsimp only at hf
    refine x_iconst C dX8_allWeighLess_47 48 rfl 1 (by decide) ?_
    exact x_zret C rfl (hE _ (Option.some.inj hf).symm) dX8_allWeighLess_48
theorem dX8_goToNextRow_0 : decode cX8_goToNextRow 0 = .ok (.aload_n 0, 1) := by decide +kernel
theorem dX8_goToNextRow_1 : decode cX8_goToNextRow 1 = .ok (.getfield 9, 3) := by decide +kernel
theorem dX8_goToNextRow_4 : decode cX8_goToNextRow 4 = .ok (.iconst 1, 1) := by decide +kernel
theorem dX8_goToNextRow_5 : decode cX8_goToNextRow 5 = .ok (.isub, 1) := by decide +kernel
theorem dX8_goToNextRow_6 : decode cX8_goToNextRow 6 = .ok (.istore_n 1, 1) := by decide +kernel
theorem dX8_goToNextRow_7 : decode cX8_goToNextRow 7 = .ok (.iload_n 1, 1) := by decide +kernel
theorem dX8_goToNextRow_8 : decode cX8_goToNextRow 8 = .ok (.ifCond .lt 37, 3) := by decide +kernel
theorem dX8_goToNextRow_11 : decode cX8_goToNextRow 11 = .ok (.aload_n 0, 1) := by decide +kernel
theorem dX8_goToNextRow_12 : decode cX8_goToNextRow 12 = .ok (.getfield 35, 3) := by decide +kernel
theorem dX8_goToNextRow_15 : decode cX8_goToNextRow 15 = .ok (.iload_n 1, 1) := by decide +kernel
theorem dX8_goToNextRow_16 : decode cX8_goToNextRow 16 = .ok (.iaload, 1) := by decide +kernel
theorem dX8_goToNextRow_17 : decode cX8_goToNextRow 17 = .ok (.iconst 5, 1) := by decide +kernel
theorem dX8_goToNextRow_18 : decode cX8_goToNextRow 18 = .ok (.if_icmp .ge 14, 3) := by decide +kernel
theorem dX8_goToNextRow_21 : decode cX8_goToNextRow 21 = .ok (.aload_n 0, 1) := by decide +kernel
theorem dX8_goToNextRow_22 : decode cX8_goToNextRow 22 = .ok (.getfield 35, 3) := by decide +kernel
theorem dX8_goToNextRow_25 : decode cX8_goToNextRow 25 = .ok (.iload_n 1, 1) := by decide +kernel
theorem dX8_goToNextRow_26 : decode cX8_goToNextRow 26 = .ok (.dup2, 1) := by decide +kernel
theorem dX8_goToNextRow_27 : decode cX8_goToNextRow 27 = .ok (.iaload, 1) := by decide +kernel
theorem dX8_goToNextRow_28 : decode cX8_goToNextRow 28 = .ok (.iconst 1, 1) := by decide +kernel
theorem dX8_goToNextRow_29 : decode cX8_goToNextRow 29 = .ok (.iadd, 1) := by decide +kernel
theorem dX8_goToNextRow_30 : decode cX8_goToNextRow 30 = .ok (.iastore, 1) := by decide +kernel
theorem dX8_goToNextRow_31 : decode cX8_goToNextRow 31 = .ok (.return_, 1) := by decide +kernel
theorem dX8_goToNextRow_32 : decode cX8_goToNextRow 32 = .ok (.aload_n 0, 1) := by decide +kernel
theorem dX8_goToNextRow_33 : decode cX8_goToNextRow 33 = .ok (.getfield 35, 3) := by decide +kernel
theorem dX8_goToNextRow_36 : decode cX8_goToNextRow 36 = .ok (.iload_n 1, 1) := by decide +kernel
theorem dX8_goToNextRow_37 : decode cX8_goToNextRow 37 = .ok (.iconst 1, 1) := by decide +kernel
theorem dX8_goToNextRow_38 : decode cX8_goToNextRow 38 = .ok (.iastore, 1) := by decide +kernel
theorem dX8_goToNextRow_39 : decode cX8_goToNextRow 39 = .ok (.iinc 1 (-1), 3) := by decide +kernel
theorem dX8_goToNextRow_42 : decode cX8_goToNextRow 42 = .ok (.goto (-35), 3) := by decide +kernel
theorem dX8_goToNextRow_45 : decode cX8_goToNextRow 45 = .ok (.return_, 1) := by decide +kernel
abbrev rmX8_goToNextRow : Room := { frames := 0, cells := 0, slots := 0, locals := 0 }
noncomputable def fLX8_goToNextRow_7 (x0 : Nat) (a : Int32 × St) : Option ((Int32 × St) ⊕ ((Int32 × St) ⊕ (St))) :=
if a.1 < 0 then
(some (Sum.inr (Sum.inr a.2)))
else
((gR a.2 x0 8 7).bind fun v12 =>
(aI a.2 v12 0 a.1).bind fun v16 =>
if ((5 : Int32)) ≤ v16 then
((gR a.2 x0 8 7).bind fun v33 =>
(sI a.2 v33 a.1 1).bind fun σ38 =>
xlet (a.1 + (-1)) fun v39 =>
some (Sum.inl (v39, σ38)))
else
(some (Sum.inr (Sum.inl (a.1, a.2)))))
set_option maxHeartbeats 4000000 in
set_option maxRecDepth 100000 in
theorem lpX8_goToNextRow_7 {X : xX} {x0 : Nat}  {a0 : Int32 × St} {b : (Int32 × St) ⊕ (St)} (C : Ok X cX8_goToNextRow 2 RX8 rmX8_goToNextRow none) (hb : iterP (fLX8_goToNextRow_7 x0) a0 = some b) (hy0 : ∀ s, b = (Sum.inl s) → V X (0, 0) s.2 21 [(0, .ref (x0)), (1, .int (s.1))] []) (hy1 : ∀ s, b = (Sum.inr s) → V X (0, 0) s 45 [] []) : V X (0, 0) a0.2 7 [(0, .ref (x0)), (1, .int (a0.1))] [] := by
  obtain ⟨n, hn⟩ := iterP_some hb
  refine x_loop (P := fun a => V X (0, 0) a.2 7 [(0, .ref (x0)), (1, .int (a.1))] []) ?_ n a0 hn
  intro a c hf hK hxx
  have hx0 : ∀ s, c = Sum.inr (Sum.inl s) → V X (0, 0) s.2 21 [(0, .ref (x0)), (1, .int (s.1))] [] := fun s e => hy0 s (hxx _ e).symm
  have hx1 : ∀ s, c = Sum.inr (Sum.inr s) → V X (0, 0) s 45 [] [] := fun s e => hy1 s (hxx _ e).symm
  unfold fLX8_goToNextRow_7 at hf
  refine x_iload_n C dX8_goToNextRow_7 8 rfl 1 rfl rfl ?_
  refine x_if_lt C dX8_goToNextRow_8 45 (by decide) 11 rfl (fun hc => ?_) (fun hc => ?_)
  · have hf := (if_pos hc).symm.trans hf
    refine x_lv [] (lv' := []) rfl ?_
    exact hx1 _ (Option.some.inj hf).symm
  · have hf := (if_neg hc).symm.trans hf
    refine x_aload_n C dX8_goToNextRow_11 12 rfl 0 rfl rfl ?_
    obtain ⟨v12, hv12, hf⟩ := x_bind hf
    refine x_getR C dX8_goToNextRow_12 15 rfl hv12 cl8 rfl w211 ?_
    refine x_iload_n C dX8_goToNextRow_15 16 rfl 1 rfl rfl ?_
    obtain ⟨v16, hv16, hf⟩ := x_bind hf
    refine x_iaload C dX8_goToNextRow_16 17 rfl hv16 ?_
    refine x_iconst C dX8_goToNextRow_17 18 rfl 5 (by decide) ?_
    refine x_icmp_ge C dX8_goToNextRow_18 32 (by decide) 21 rfl (fun hc => ?_) (fun hc => ?_)
    · have hf := (if_pos hc).symm.trans hf
      refine x_aload_n C dX8_goToNextRow_32 33 rfl 0 rfl rfl ?_
      obtain ⟨v33, hv33, hf⟩ := x_bind hf
      refine x_getR C dX8_goToNextRow_33 36 rfl hv33 cl8 rfl w211 ?_
      refine x_iload_n C dX8_goToNextRow_36 37 rfl 1 rfl rfl ?_
      refine x_iconst C dX8_goToNextRow_37 38 rfl 1 (by decide) ?_
      obtain ⟨σ38, hσ38, hf⟩ := x_bind hf
      refine x_iastore C dX8_goToNextRow_38 39 rfl hσ38 ?_
      obtain ⟨v39, ev39, hf⟩ := xlet_some hf
      refine x_iinc C dX8_goToNextRow_39 42 rfl 1 rfl v39 ev39 rfl [(1, .int (v39)), (0, .ref (x0))] rfl ?_
      refine x_goto C dX8_goToNextRow_42 7 (by decide) ?_
      refine x_lv [1, 0] (lv' := [(0, .ref (x0)), (1, .int (v39))]) rfl ?_
      exact hK _ (Option.some.inj hf).symm
    · have hf := (if_neg hc).symm.trans hf
      exact hx0 _ (Option.some.inj hf).symm
noncomputable def fX8_goToNextRow (σ : St) (x0 : Nat) : Option (St) :=
(gI σ x0 8 0).bind fun v1 =>
xlet (v1 - 1) fun v6 =>
(iterP (fLX8_goToNextRow_7 x0) (v6, σ)).bind fun b7 =>
(match b7 with
| .inl s7 =>
(gR s7.2 x0 8 7).bind fun v22 =>
(aI s7.2 v22 0 s7.1).bind fun v27 =>
(sI s7.2 v22 s7.1 (v27 + 1)).bind fun σ30 =>
some σ30
| .inr s7 =>
some s7)
set_option maxHeartbeats 4000000 in
set_option maxRecDepth 100000 in
theorem cX8_goToNextRowc {l : Launch} {G : xG} {A : Nat → Prop} {σ : St} {x0 : Nat} {c : St} (hf : fX8_goToNextRow σ x0 = some c) : Con l yX8_goToNextRow (xws yX8_goToNextRow cX8_goToNextRow 2 none) rmX8_goToNextRow [.ref (x0)] G A σ none c := by
  refine x_start rfl (Nat.le_of_ble_eq_true rfl) (fun X _ _ _ C hE0 => ?_)
  have hE : ∀ r, c = r → xE1 X none r := fun r e => e ▸ hE0
  show V X (0, 0) σ 0 [(0, .ref (x0))] []
  unfold fX8_goToNextRow at hf
  refine x_aload_n C dX8_goToNextRow_0 1 rfl 0 rfl rfl ?_
  obtain ⟨v1, hv1, hf⟩ := x_bind hf
  refine x_getI C dX8_goToNextRow_1 4 rfl hv1 cl8 rfl w178 ?_
  refine x_iconst C dX8_goToNextRow_4 5 rfl 1 (by decide) ?_
  refine x_isub C dX8_goToNextRow_5 6 rfl ?_
  obtain ⟨v6, ev6, hf⟩ := xlet_some hf
  refine x_topi ev6 ?_
  refine x_istore_n C dX8_goToNextRow_6 7 rfl rfl rfl [(1, .int (v6)), (0, .ref (x0))] rfl ?_
  obtain ⟨b7, hb7, hf⟩ := x_bind hf
  refine x_lv [1, 0] (lv' := [(0, .ref (x0)), (1, .int (v6))]) rfl ?_
  refine lpX8_goToNextRow_7 C hb7 (fun s7 e7 => ?_) (fun s7 e7 => ?_)
  · subst e7
    try dsimp only at hf
    refine x_aload_n C dX8_goToNextRow_21 22 rfl 0 rfl rfl ?_
    obtain ⟨v22, hv22, hf⟩ := x_bind hf
    refine x_getR C dX8_goToNextRow_22 25 rfl hv22 cl8 rfl w211 ?_
    refine x_iload_n C dX8_goToNextRow_25 26 rfl 1 rfl rfl ?_
    refine x_dup2 C dX8_goToNextRow_26 27 rfl rfl rfl ?_
    obtain ⟨v27, hv27, hf⟩ := x_bind hf
    refine x_iaload C dX8_goToNextRow_27 28 rfl hv27 ?_
    refine x_iconst C dX8_goToNextRow_28 29 rfl 1 (by decide) ?_
    refine x_iadd C dX8_goToNextRow_29 30 rfl ?_
    obtain ⟨σ30, hσ30, hf⟩ := x_bind hf
    refine x_iastore C dX8_goToNextRow_30 31 rfl hσ30 ?_
    exact x_vret C (hE _ (Option.some.inj hf).symm) dX8_goToNextRow_31
  · subst e7
    try dsimp only at hf
    exact x_vret C (hE _ (Option.some.inj hf).symm) dX8_goToNextRow_45
theorem dX8_findLeast_0 : decode cX8_findLeast 0 = .ok (.aload_n 0, 1) := by decide +kernel
theorem dX8_findLeast_1 : decode cX8_findLeast 1 = .ok (.getfield 35, 3) := by decide +kernel
theorem dX8_findLeast_4 : decode cX8_findLeast 4 = .ok (.iconst 1, 1) := by decide +kernel
theorem dX8_findLeast_5 : decode cX8_findLeast 5 = .ok (.invokestatic 84, 3) := by decide +kernel
theorem dX8_findLeast_8 : decode cX8_findLeast 8 = .ok (.iconst 1, 1) := by decide +kernel
theorem dX8_findLeast_9 : decode cX8_findLeast 9 = .ok (.istore_n 1, 1) := by decide +kernel
theorem dX8_findLeast_10 : decode cX8_findLeast 10 = .ok (.iconst 0, 1) := by decide +kernel
theorem dX8_findLeast_11 : decode cX8_findLeast 11 = .ok (.istore_n 2, 1) := by decide +kernel
theorem dX8_findLeast_12 : decode cX8_findLeast 12 = .ok (.iload_n 2, 1) := by decide +kernel
theorem dX8_findLeast_13 : decode cX8_findLeast 13 = .ok (.aload_n 0, 1) := by decide +kernel
theorem dX8_findLeast_14 : decode cX8_findLeast 14 = .ok (.getfield 9, 3) := by decide +kernel
theorem dX8_findLeast_17 : decode cX8_findLeast 17 = .ok (.if_icmp .ge 13, 3) := by decide +kernel
theorem dX8_findLeast_20 : decode cX8_findLeast 20 = .ok (.iload_n 1, 1) := by decide +kernel
theorem dX8_findLeast_21 : decode cX8_findLeast 21 = .ok (.iconst 5, 1) := by decide +kernel
theorem dX8_findLeast_22 : decode cX8_findLeast 22 = .ok (.imul, 1) := by decide +kernel
theorem dX8_findLeast_23 : decode cX8_findLeast 23 = .ok (.istore_n 1, 1) := by decide +kernel
theorem dX8_findLeast_24 : decode cX8_findLeast 24 = .ok (.iinc 2 1, 3) := by decide +kernel
theorem dX8_findLeast_27 : decode cX8_findLeast 27 = .ok (.goto (-15), 3) := by decide +kernel
theorem dX8_findLeast_30 : decode cX8_findLeast 30 = .ok (.iconst 0, 1) := by decide +kernel
theorem dX8_findLeast_31 : decode cX8_findLeast 31 = .ok (.istore_n 2, 1) := by decide +kernel
theorem dX8_findLeast_32 : decode cX8_findLeast 32 = .ok (.iload_n 2, 1) := by decide +kernel
theorem dX8_findLeast_33 : decode cX8_findLeast 33 = .ok (.iload_n 1, 1) := by decide +kernel
theorem dX8_findLeast_34 : decode cX8_findLeast 34 = .ok (.if_icmp .ge 21, 3) := by decide +kernel
theorem dX8_findLeast_37 : decode cX8_findLeast 37 = .ok (.aload_n 0, 1) := by decide +kernel
theorem dX8_findLeast_38 : decode cX8_findLeast 38 = .ok (.invokevirtual 90, 3) := by decide +kernel
theorem dX8_findLeast_41 : decode cX8_findLeast 41 = .ok (.ifCond .eq 4, 3) := by decide +kernel
theorem dX8_findLeast_44 : decode cX8_findLeast 44 = .ok (.return_, 1) := by decide +kernel
theorem dX8_findLeast_45 : decode cX8_findLeast 45 = .ok (.aload_n 0, 1) := by decide +kernel
theorem dX8_findLeast_46 : decode cX8_findLeast 46 = .ok (.invokevirtual 94, 3) := by decide +kernel
theorem dX8_findLeast_49 : decode cX8_findLeast 49 = .ok (.iinc 2 1, 3) := by decide +kernel
theorem dX8_findLeast_52 : decode cX8_findLeast 52 = .ok (.goto (-20), 3) := by decide +kernel
theorem dX8_findLeast_55 : decode cX8_findLeast 55 = .ok (.aload_n 0, 1) := by decide +kernel
theorem dX8_findLeast_56 : decode cX8_findLeast 56 = .ok (.getfield 35, 3) := by decide +kernel
theorem dX8_findLeast_59 : decode cX8_findLeast 59 = .ok (.iconst 0, 1) := by decide +kernel
theorem dX8_findLeast_60 : decode cX8_findLeast 60 = .ok (.iconst (-1), 1) := by decide +kernel
theorem dX8_findLeast_61 : decode cX8_findLeast 61 = .ok (.iastore, 1) := by decide +kernel
theorem dX8_findLeast_62 : decode cX8_findLeast 62 = .ok (.return_, 1) := by decide +kernel
abbrev rmX8_findLeast : Room := { frames := 2, cells := 0, slots := 0, locals := 47 }
noncomputable def fLX8_findLeast_12 (σ : St) (x0 : Nat) (a : Int32 × Int32) : Option ((Int32 × Int32) ⊕ (Int32)) :=
(gI σ x0 8 0).bind fun v14 =>
if v14 ≤ a.2 then
(some (Sum.inr a.1))
else
(xlet (a.1 * 5) fun v23 =>
xlet (a.2 + 1) fun v24 =>
some (Sum.inl (v23, v24)))
set_option maxHeartbeats 4000000 in
set_option maxRecDepth 100000 in
theorem lpX8_findLeast_12 {X : xX} {σ : St} {x0 : Nat}  {a0 : Int32 × Int32} {b : Int32} (C : Ok X cX8_findLeast 3 RX8 rmX8_findLeast none) (hb : iterP (fLX8_findLeast_12 σ x0) a0 = some b) (hy0 : ∀ s, b = s → V X (0, 0) σ 30 [(0, .ref (x0)), (1, .int (s))] []) : V X (0, 0) σ 12 [(0, .ref (x0)), (1, .int (a0.1)), (2, .int (a0.2))] [] := by
  obtain ⟨n, hn⟩ := iterP_some hb
  refine x_loop (P := fun a => V X (0, 0) σ 12 [(0, .ref (x0)), (1, .int (a.1)), (2, .int (a.2))] []) ?_ n a0 hn
  intro a c hf hK hxx
  have hx0 : ∀ s, c = Sum.inr s → V X (0, 0) σ 30 [(0, .ref (x0)), (1, .int (s))] [] := fun s e => hy0 s (hxx _ e).symm
  unfold fLX8_findLeast_12 at hf
  refine x_iload_n C dX8_findLeast_12 13 rfl 2 rfl rfl ?_
  refine x_aload_n C dX8_findLeast_13 14 rfl 0 rfl rfl ?_
  obtain ⟨v14, hv14, hf⟩ := x_bind hf
  refine x_getI C dX8_findLeast_14 17 rfl hv14 cl8 rfl w178 ?_
  refine x_icmp_ge C dX8_findLeast_17 30 (by decide) 20 rfl (fun hc => ?_) (fun hc => ?_)
  · have hf := (if_pos hc).symm.trans hf
    refine x_lv [0, 1] (lv' := [(0, .ref (x0)), (1, .int (a.1))]) rfl ?_
    exact hx0 _ (Option.some.inj hf).symm
  · have hf := (if_neg hc).symm.trans hf
    refine x_iload_n C dX8_findLeast_20 21 rfl 1 rfl rfl ?_
    refine x_iconst C dX8_findLeast_21 22 rfl 5 (by decide) ?_
    refine x_imul C dX8_findLeast_22 23 rfl ?_
    obtain ⟨v23, ev23, hf⟩ := xlet_some hf
    refine x_topi ev23 ?_
    refine x_istore_n C dX8_findLeast_23 24 rfl rfl rfl [(1, .int (v23)), (0, .ref (x0)), (2, .int (a.2))] rfl ?_
    obtain ⟨v24, ev24, hf⟩ := xlet_some hf
    refine x_iinc C dX8_findLeast_24 27 rfl 2 rfl v24 ev24 rfl [(2, .int (v24)), (1, .int (v23)), (0, .ref (x0))] rfl ?_
    refine x_goto C dX8_findLeast_27 12 (by decide) ?_
    refine x_lv [2, 1, 0] (lv' := [(0, .ref (x0)), (1, .int (v23)), (2, .int (v24))]) rfl ?_
    exact hK _ (Option.some.inj hf).symm
noncomputable def fLX8_findLeast_32 (x0 : Nat) (x1 : Int32) (a : Int32 × St) : Option ((Int32 × St) ⊕ ((St) ⊕ (St))) :=
if x1 ≤ a.1 then
(some (Sum.inr (Sum.inr a.2)))
else
((isO a.2 x0 8).bind fun _ =>
(fX8_allWeighLess a.2 x0).bind fun w38 =>
if w38 = 0 then
((isO a.2 x0 8).bind fun _ =>
(fX8_goToNextRow a.2 x0).bind fun w46 =>
xlet (a.1 + 1) fun v49 =>
some (Sum.inl (v49, w46)))
else
(some (Sum.inr (Sum.inl a.2))))
set_option maxHeartbeats 4000000 in
set_option maxRecDepth 100000 in
theorem lpX8_findLeast_32 {X : xX} {x0 : Nat} {x1 : Int32}  {a0 : Int32 × St} {b : (St) ⊕ (St)} (C : Ok X cX8_findLeast 3 RX8 rmX8_findLeast none) (hb : iterP (fLX8_findLeast_32 x0 x1) a0 = some b) (hy0 : ∀ s, b = (Sum.inl s) → V X (0, 0) s 44 [] []) (hy1 : ∀ s, b = (Sum.inr s) → V X (0, 0) s 55 [(0, .ref (x0))] []) : V X (0, 0) a0.2 32 [(0, .ref (x0)), (1, .int (x1)), (2, .int (a0.1))] [] := by
  obtain ⟨n, hn⟩ := iterP_some hb
  refine x_loop (P := fun a => V X (0, 0) a.2 32 [(0, .ref (x0)), (1, .int (x1)), (2, .int (a.1))] []) ?_ n a0 hn
  intro a c hf hK hxx
  have hx0 : ∀ s, c = Sum.inr (Sum.inl s) → V X (0, 0) s 44 [] [] := fun s e => hy0 s (hxx _ e).symm
  have hx1 : ∀ s, c = Sum.inr (Sum.inr s) → V X (0, 0) s 55 [(0, .ref (x0))] [] := fun s e => hy1 s (hxx _ e).symm
  unfold fLX8_findLeast_32 at hf
  refine x_iload_n C dX8_findLeast_32 33 rfl 2 rfl rfl ?_
  refine x_iload_n C dX8_findLeast_33 34 rfl 1 rfl rfl ?_
  refine x_icmp_ge C dX8_findLeast_34 55 (by decide) 37 rfl (fun hc => ?_) (fun hc => ?_)
  · have hf := (if_pos hc).symm.trans hf
    refine x_lv [0] (lv' := [(0, .ref (x0))]) rfl ?_
    exact hx1 _ (Option.some.inj hf).symm
  · have hf := (if_neg hc).symm.trans hf
    refine x_aload_n C dX8_findLeast_37 38 rfl 0 rfl rfl ?_
    obtain ⟨o38, ho38, hf⟩ := x_bind hf
    obtain ⟨w38, hw38, hf⟩ := x_bind hf
    refine x_callVi C dX8_findLeast_38 41 rfl ho38 cl8.1 rfl (cX8_allWeighLessc hw38) kX8_allWeighLess kvX8_allWeighLess w1081 ⟨rfl, rfl⟩ ⟨Nat.le_of_ble_eq_true rfl, Nat.le_of_ble_eq_true rfl⟩ ⟨Nat.zero_le _, Nat.zero_le _⟩ rfl rfl (Nat.le_of_ble_eq_true rfl) ?_
    refine x_if_eq C dX8_findLeast_41 45 (by decide) 44 rfl (fun hc => ?_) (fun hc => ?_)
    · have hf := (if_pos hc).symm.trans hf
      refine x_aload_n C dX8_findLeast_45 46 rfl 0 rfl rfl ?_
      obtain ⟨o46, ho46, hf⟩ := x_bind hf
      obtain ⟨w46, hw46, hf⟩ := x_bind hf
      refine x_callVv C dX8_findLeast_46 49 rfl ho46 cl8.1 rfl (cX8_goToNextRowc hw46) kX8_goToNextRow kvX8_goToNextRow w1085 ⟨rfl, rfl⟩ ⟨Nat.le_of_ble_eq_true rfl, Nat.le_of_ble_eq_true rfl⟩ ⟨Nat.zero_le _, Nat.zero_le _⟩ rfl rfl (Nat.le_of_ble_eq_true rfl) ?_
      obtain ⟨v49, ev49, hf⟩ := xlet_some hf
      refine x_iinc C dX8_findLeast_49 52 rfl 2 rfl v49 ev49 rfl [(2, .int (v49)), (0, .ref (x0)), (1, .int (x1))] rfl ?_
      refine x_goto C dX8_findLeast_52 32 (by decide) ?_
      refine x_lv [1, 2, 0] (lv' := [(0, .ref (x0)), (1, .int (x1)), (2, .int (v49))]) rfl ?_
      exact hK _ (Option.some.inj hf).symm
    · have hf := (if_neg hc).symm.trans hf
      refine x_lv [] (lv' := []) rfl ?_
      exact hx0 _ (Option.some.inj hf).symm
noncomputable def fX8_findLeast (σ : St) (x0 : Nat) : Option (St) :=
(gR σ x0 8 7).bind fun v1 =>
(fJ7_fill_53178 σ v1 1).bind fun w5 =>
(iterP (fLX8_findLeast_12 w5 x0) (1, 0)).bind fun b12 =>
(iterP (fLX8_findLeast_32 x0 b12) (0, w5)).bind fun b32 =>
(match b32 with
| .inl s32 =>
some s32
| .inr s32 =>
(gR s32 x0 8 7).bind fun v56 =>
(sI s32 v56 0 (-1)).bind fun σ61 =>
some σ61)
set_option maxHeartbeats 4000000 in
set_option maxRecDepth 100000 in
theorem cX8_findLeastc {l : Launch} {G : xG} {A : Nat → Prop} {σ : St} {x0 : Nat} {c : St} (hf : fX8_findLeast σ x0 = some c) : Con l yX8_findLeast (xws yX8_findLeast cX8_findLeast 3 none) rmX8_findLeast [.ref (x0)] G A σ none c := by
  refine x_start rfl (Nat.le_of_ble_eq_true rfl) (fun X _ _ _ C hE0 => ?_)
  have hE : ∀ r, c = r → xE1 X none r := fun r e => e ▸ hE0
  show V X (0, 0) σ 0 [(0, .ref (x0))] []
  unfold fX8_findLeast at hf
  refine x_aload_n C dX8_findLeast_0 1 rfl 0 rfl rfl ?_
  obtain ⟨v1, hv1, hf⟩ := x_bind hf
  refine x_getR C dX8_findLeast_1 4 rfl hv1 cl8 rfl w211 ?_
  refine x_iconst C dX8_findLeast_4 5 rfl 1 (by decide) ?_
  obtain ⟨w5, hw5, hf⟩ := x_bind hf
  refine x_callSv C dX8_findLeast_5 8 rfl (cJ7_fill_53178c hw5) kJ7_fill_53178 ksJ7_fill_53178 w1078 ⟨rfl, rfl⟩ ⟨Nat.le_of_ble_eq_true rfl, Nat.le_of_ble_eq_true rfl⟩ ⟨Nat.zero_le _, Nat.zero_le _⟩ rfl rfl (Nat.le_of_ble_eq_true rfl) ?_
  refine x_iconst C dX8_findLeast_8 9 rfl 1 (by decide) ?_
  refine x_istore_n C dX8_findLeast_9 10 rfl rfl rfl [(1, .int (1)), (0, .ref (x0))] rfl ?_
  refine x_iconst C dX8_findLeast_10 11 rfl 0 (by decide) ?_
  refine x_istore_n C dX8_findLeast_11 12 rfl rfl rfl [(2, .int (0)), (1, .int (1)), (0, .ref (x0))] rfl ?_
  obtain ⟨b12, hb12, hf⟩ := x_bind hf
  refine x_lv [2, 1, 0] (lv' := [(0, .ref (x0)), (1, .int (1)), (2, .int (0))]) rfl ?_
  refine lpX8_findLeast_12 C hb12 (fun s12 e12 => ?_)
  subst e12
  refine x_iconst C dX8_findLeast_30 31 rfl 0 (by decide) ?_
  refine x_istore_n C dX8_findLeast_31 32 rfl rfl rfl [(2, .int (0)), (0, .ref (x0)), (1, .int (b12))] rfl ?_
  obtain ⟨b32, hb32, hf⟩ := x_bind hf
  refine x_lv [1, 2, 0] (lv' := [(0, .ref (x0)), (1, .int (b12)), (2, .int (0))]) rfl ?_
  refine lpX8_findLeast_32 C hb32 (fun s32 e32 => ?_) (fun s32 e32 => ?_)
  · subst e32
    try dsimp only at hf
    exact x_vret C (hE _ (Option.some.inj hf).symm) dX8_findLeast_44
  · subst e32
    try dsimp only at hf
    refine x_aload_n C dX8_findLeast_55 56 rfl 0 rfl rfl ?_
    obtain ⟨v56, hv56, hf⟩ := x_bind hf
    refine x_getR C dX8_findLeast_56 59 rfl hv56 cl8 rfl w211 ?_
    refine x_iconst C dX8_findLeast_59 60 rfl 0 (by decide) ?_
    refine x_iconst C dX8_findLeast_60 61 rfl (-1) (by decide) ?_
    obtain ⟨σ61, hσ61, hf⟩ := x_bind hf
    refine x_iastore C dX8_findLeast_61 62 rfl hσ61 ?_
    exact x_vret C (hE _ (Option.some.inj hf).symm) dX8_findLeast_62
theorem dX8_leastOf_0 : decode cX8_leastOf 0 = .ok (.aload_n 0, 1) := by decide +kernel
theorem dX8_leastOf_1 : decode cX8_leastOf 1 = .ok (.getfield 38, 3) := by decide +kernel
theorem dX8_leastOf_4 : decode cX8_leastOf 4 = .ok (.aload_n 0, 1) := by decide +kernel
theorem dX8_leastOf_5 : decode cX8_leastOf 5 = .ok (.getfield 32, 3) := by decide +kernel
theorem dX8_leastOf_8 : decode cX8_leastOf 8 = .ok (.if_icmp .eq 15, 3) := by decide +kernel
theorem dX8_leastOf_11 : decode cX8_leastOf 11 = .ok (.aload_n 0, 1) := by decide +kernel
theorem dX8_leastOf_12 : decode cX8_leastOf 12 = .ok (.aload_n 0, 1) := by decide +kernel
theorem dX8_leastOf_13 : decode cX8_leastOf 13 = .ok (.getfield 32, 3) := by decide +kernel
theorem dX8_leastOf_16 : decode cX8_leastOf 16 = .ok (.putfield 38, 3) := by decide +kernel
theorem dX8_leastOf_19 : decode cX8_leastOf 19 = .ok (.aload_n 0, 1) := by decide +kernel
theorem dX8_leastOf_20 : decode cX8_leastOf 20 = .ok (.invokevirtual 81, 3) := by decide +kernel
theorem dX8_leastOf_23 : decode cX8_leastOf 23 = .ok (.aload_n 0, 1) := by decide +kernel
theorem dX8_leastOf_24 : decode cX8_leastOf 24 = .ok (.getfield 35, 3) := by decide +kernel
theorem dX8_leastOf_27 : decode cX8_leastOf 27 = .ok (.iconst 0, 1) := by decide +kernel
theorem dX8_leastOf_28 : decode cX8_leastOf 28 = .ok (.iaload, 1) := by decide +kernel
theorem dX8_leastOf_29 : decode cX8_leastOf 29 = .ok (.iconst (-1), 1) := by decide +kernel
theorem dX8_leastOf_30 : decode cX8_leastOf 30 = .ok (.if_icmp .ne 7, 3) := by decide +kernel
theorem dX8_leastOf_33 : decode cX8_leastOf 33 = .ok (.iconst (-1), 1) := by decide +kernel
theorem dX8_leastOf_34 : decode cX8_leastOf 34 = .ok (.goto 9, 3) := by decide +kernel
theorem dX8_leastOf_37 : decode cX8_leastOf 37 = .ok (.aload_n 0, 1) := by decide +kernel
theorem dX8_leastOf_38 : decode cX8_leastOf 38 = .ok (.getfield 35, 3) := by decide +kernel
theorem dX8_leastOf_41 : decode cX8_leastOf 41 = .ok (.iload_n 1, 1) := by decide +kernel
theorem dX8_leastOf_42 : decode cX8_leastOf 42 = .ok (.iaload, 1) := by decide +kernel
theorem dX8_leastOf_43 : decode cX8_leastOf 43 = .ok (.ireturn, 1) := by decide +kernel
abbrev rmX8_leastOf : Room := { frames := 3, cells := 0, slots := 0, locals := 69 }
noncomputable def fJX8_leastOf_m_23 (σ : St) (x0 : Nat) (x1 : Int32)  : Option ((Int32 × St)) :=
(gR σ x0 8 7).bind fun v24 =>
(aI σ v24 0 0).bind fun v28 =>
if v28 = (((-1) : Int32)) then
(some ((-1), σ))
else
((gR σ x0 8 7).bind fun v38 =>
(aI σ v38 0 x1).bind fun v42 =>
some (v42, σ))
set_option maxHeartbeats 4000000 in
set_option maxRecDepth 100000 in
theorem jnX8_leastOf_m_23 {X : xX} {σ : St} {x0 : Nat} {x1 : Int32}   {c : (Int32 × St)} (C : Ok X cX8_leastOf 2 RX8 rmX8_leastOf (some .int)) (hf : fJX8_leastOf_m_23 σ x0 x1  = some c) (hE : ∀ r, c = r → xE1 X (some (.int r.1)) r.2) : V X (0, 0) σ 23 [(0, .ref (x0)), (1, .int (x1))] [] := by
  unfold fJX8_leastOf_m_23 at hf
  refine x_aload_n C dX8_leastOf_23 24 rfl 0 rfl rfl ?_
  obtain ⟨v24, hv24, hf⟩ := x_bind hf
  refine x_getR C dX8_leastOf_24 27 rfl hv24 cl8 rfl w211 ?_
  refine x_iconst C dX8_leastOf_27 28 rfl 0 (by decide) ?_
  obtain ⟨v28, hv28, hf⟩ := x_bind hf
  refine x_iaload C dX8_leastOf_28 29 rfl hv28 ?_
  refine x_iconst C dX8_leastOf_29 30 rfl (-1) (by decide) ?_
  refine x_icmp_ne C dX8_leastOf_30 37 (by decide) 33 rfl (fun hc => ?_) (fun hc => ?_)
  · have hf := (if_neg hc).symm.trans hf
    refine x_aload_n C dX8_leastOf_37 38 rfl 0 rfl rfl ?_
    obtain ⟨v38, hv38, hf⟩ := x_bind hf
    refine x_getR C dX8_leastOf_38 41 rfl hv38 cl8 rfl w211 ?_
    refine x_iload_n C dX8_leastOf_41 42 rfl 1 rfl rfl ?_
    obtain ⟨v42, hv42, hf⟩ := x_bind hf
    refine x_iaload C dX8_leastOf_42 43 rfl hv42 ?_
    exact x_iret C (hE _ (Option.some.inj hf).symm) dX8_leastOf_43
  · have hf := (if_pos hc).symm.trans hf
    refine x_iconst C dX8_leastOf_33 34 rfl (-1) (by decide) ?_
    refine x_goto C dX8_leastOf_34 43 (by decide) ?_
    exact x_iret C (hE _ (Option.some.inj hf).symm) dX8_leastOf_43
noncomputable def fX8_leastOf (σ : St) (x0 : Nat) (x1 : Int32) : Option ((Int32 × St)) :=
(gI σ x0 8 8).bind fun v1 =>
(gI σ x0 8 6).bind fun v5 =>
if v1 = v5 then
(fJX8_leastOf_m_23 σ x0 x1)
else
((gI σ x0 8 6).bind fun v13 =>
(wrF σ x0 8 8 (.int (v13))).bind fun σ16 =>
(isO σ16 x0 8).bind fun _ =>
(fX8_findLeast σ16 x0).bind fun w20 =>
fJX8_leastOf_m_23 w20 x0 x1)
set_option maxHeartbeats 4000000 in
set_option maxRecDepth 100000 in
theorem cX8_leastOfc {l : Launch} {G : xG} {A : Nat → Prop} {σ : St} {x0 : Nat} {x1 : Int32} {c : (Int32 × St)} (hf : fX8_leastOf σ x0 x1 = some c) : Con l yX8_leastOf (xws yX8_leastOf cX8_leastOf 2 (some .int)) rmX8_leastOf [.ref (x0), .int (x1)] G A σ (some (.int c.1)) c.2 := by
  refine x_start rfl (Nat.le_of_ble_eq_true rfl) (fun X _ _ _ C hE0 => ?_)
  have hE : ∀ r, c = r → xE1 X (some (.int r.1)) r.2 := fun r e => e ▸ hE0
  show V X (0, 0) σ 0 [(0, .ref (x0)), (1, .int (x1))] []
  unfold fX8_leastOf at hf
  refine x_aload_n C dX8_leastOf_0 1 rfl 0 rfl rfl ?_
  obtain ⟨v1, hv1, hf⟩ := x_bind hf
  refine x_getI C dX8_leastOf_1 4 rfl hv1 cl8 rfl w212 ?_
  refine x_aload_n C dX8_leastOf_4 5 rfl 0 rfl rfl ?_
  obtain ⟨v5, hv5, hf⟩ := x_bind hf
  refine x_getI C dX8_leastOf_5 8 rfl hv5 cl8 rfl w208 ?_
  refine x_icmp_eq C dX8_leastOf_8 23 (by decide) 11 rfl (fun hc => ?_) (fun hc => ?_)
  · have hf := (if_pos hc).symm.trans hf
    exact jnX8_leastOf_m_23 C hf hE
  · have hf := (if_neg hc).symm.trans hf
    refine x_aload_n C dX8_leastOf_11 12 rfl 0 rfl rfl ?_
    refine x_aload_n C dX8_leastOf_12 13 rfl 0 rfl rfl ?_
    obtain ⟨v13, hv13, hf⟩ := x_bind hf
    refine x_getI C dX8_leastOf_13 16 rfl hv13 cl8 rfl w208 ?_
    obtain ⟨σ16, hσ16, hf⟩ := x_bind hf
    refine x_putX C dX8_leastOf_16 19 rfl hσ16 cl8 rfl w212 rfl rfl rfl ?_
    refine x_aload_n C dX8_leastOf_19 20 rfl 0 rfl rfl ?_
    obtain ⟨o20, ho20, hf⟩ := x_bind hf
    obtain ⟨w20, hw20, hf⟩ := x_bind hf
    refine x_callVv C dX8_leastOf_20 23 rfl ho20 cl8.1 rfl (cX8_findLeastc hw20) kX8_findLeast kvX8_findLeast w1074 ⟨rfl, rfl⟩ ⟨Nat.le_of_ble_eq_true rfl, Nat.le_of_ble_eq_true rfl⟩ ⟨Nat.zero_le _, Nat.zero_le _⟩ rfl rfl (Nat.le_of_ble_eq_true rfl) ?_
    exact jnX8_leastOf_m_23 C hf hE
theorem dX8_startAnew_0 : decode cX8_startAnew 0 = .ok (.aload_n 0, 1) := by decide +kernel
theorem dX8_startAnew_1 : decode cX8_startAnew 1 = .ok (.iload_n 1, 1) := by decide +kernel
theorem dX8_startAnew_2 : decode cX8_startAnew 2 = .ok (.putfield 9, 3) := by decide +kernel
theorem dX8_startAnew_5 : decode cX8_startAnew 5 = .ok (.aload_n 0, 1) := by decide +kernel
theorem dX8_startAnew_6 : decode cX8_startAnew 6 = .ok (.iconst 0, 1) := by decide +kernel
theorem dX8_startAnew_7 : decode cX8_startAnew 7 = .ok (.putfield 15, 3) := by decide +kernel
theorem dX8_startAnew_10 : decode cX8_startAnew 10 = .ok (.iconst 0, 1) := by decide +kernel
theorem dX8_startAnew_11 : decode cX8_startAnew 11 = .ok (.istore_n 2, 1) := by decide +kernel
theorem dX8_startAnew_12 : decode cX8_startAnew 12 = .ok (.iload_n 2, 1) := by decide +kernel
theorem dX8_startAnew_13 : decode cX8_startAnew 13 = .ok (.iconst 5, 1) := by decide +kernel
theorem dX8_startAnew_14 : decode cX8_startAnew 14 = .ok (.if_icmp .ge 23, 3) := by decide +kernel
theorem dX8_startAnew_17 : decode cX8_startAnew 17 = .ok (.aload_n 0, 1) := by decide +kernel
theorem dX8_startAnew_18 : decode cX8_startAnew 18 = .ok (.getfield 25, 3) := by decide +kernel
theorem dX8_startAnew_21 : decode cX8_startAnew 21 = .ok (.iload_n 2, 1) := by decide +kernel
theorem dX8_startAnew_22 : decode cX8_startAnew 22 = .ok (.iconst 1, 1) := by decide +kernel
theorem dX8_startAnew_23 : decode cX8_startAnew 23 = .ok (.iastore, 1) := by decide +kernel
theorem dX8_startAnew_24 : decode cX8_startAnew 24 = .ok (.aload_n 0, 1) := by decide +kernel
theorem dX8_startAnew_25 : decode cX8_startAnew 25 = .ok (.getfield 29, 3) := by decide +kernel
theorem dX8_startAnew_28 : decode cX8_startAnew 28 = .ok (.iload_n 2, 1) := by decide +kernel
theorem dX8_startAnew_29 : decode cX8_startAnew 29 = .ok (.iload_n 2, 1) := by decide +kernel
theorem dX8_startAnew_30 : decode cX8_startAnew 30 = .ok (.iastore, 1) := by decide +kernel
theorem dX8_startAnew_31 : decode cX8_startAnew 31 = .ok (.iinc 2 1, 3) := by decide +kernel
theorem dX8_startAnew_34 : decode cX8_startAnew 34 = .ok (.goto (-22), 3) := by decide +kernel
theorem dX8_startAnew_37 : decode cX8_startAnew 37 = .ok (.aload_n 0, 1) := by decide +kernel
theorem dX8_startAnew_38 : decode cX8_startAnew 38 = .ok (.dup, 1) := by decide +kernel
theorem dX8_startAnew_39 : decode cX8_startAnew 39 = .ok (.getfield 32, 3) := by decide +kernel
theorem dX8_startAnew_42 : decode cX8_startAnew 42 = .ok (.iconst 1, 1) := by decide +kernel
theorem dX8_startAnew_43 : decode cX8_startAnew 43 = .ok (.iadd, 1) := by decide +kernel
theorem dX8_startAnew_44 : decode cX8_startAnew 44 = .ok (.putfield 32, 3) := by decide +kernel
theorem dX8_startAnew_47 : decode cX8_startAnew 47 = .ok (.return_, 1) := by decide +kernel
abbrev rmX8_startAnew : Room := { frames := 0, cells := 0, slots := 0, locals := 0 }
noncomputable def fLX8_startAnew_12 (x0 : Nat) (a : Int32 × St) : Option ((Int32 × St) ⊕ (St)) :=
if ((5 : Int32)) ≤ a.1 then
(some (Sum.inr a.2))
else
((gR a.2 x0 8 4).bind fun v18 =>
(sI a.2 v18 a.1 1).bind fun σ23 =>
(gR σ23 x0 8 5).bind fun v25 =>
(sI σ23 v25 a.1 a.1).bind fun σ30 =>
xlet (a.1 + 1) fun v31 =>
some (Sum.inl (v31, σ30)))
set_option maxHeartbeats 4000000 in
set_option maxRecDepth 100000 in
theorem lpX8_startAnew_12 {X : xX} {x0 : Nat}  {a0 : Int32 × St} {b : St} (C : Ok X cX8_startAnew 3 RX8 rmX8_startAnew none) (hb : iterP (fLX8_startAnew_12 x0) a0 = some b) (hy0 : ∀ s, b = s → V X (0, 0) s 37 [(0, .ref (x0))] []) : V X (0, 0) a0.2 12 [(0, .ref (x0)), (2, .int (a0.1))] [] := by
  obtain ⟨n, hn⟩ := iterP_some hb
  refine x_loop (P := fun a => V X (0, 0) a.2 12 [(0, .ref (x0)), (2, .int (a.1))] []) ?_ n a0 hn
  intro a c hf hK hxx
  have hx0 : ∀ s, c = Sum.inr s → V X (0, 0) s 37 [(0, .ref (x0))] [] := fun s e => hy0 s (hxx _ e).symm
  unfold fLX8_startAnew_12 at hf
  refine x_iload_n C dX8_startAnew_12 13 rfl 1 rfl rfl ?_
  refine x_iconst C dX8_startAnew_13 14 rfl 5 (by decide) ?_
  refine x_icmp_ge C dX8_startAnew_14 37 (by decide) 17 rfl (fun hc => ?_) (fun hc => ?_)
  · have hf := (if_pos hc).symm.trans hf
    refine x_lv [0] (lv' := [(0, .ref (x0))]) rfl ?_
    exact hx0 _ (Option.some.inj hf).symm
  · have hf := (if_neg hc).symm.trans hf
    refine x_aload_n C dX8_startAnew_17 18 rfl 0 rfl rfl ?_
    obtain ⟨v18, hv18, hf⟩ := x_bind hf
    refine x_getR C dX8_startAnew_18 21 rfl hv18 cl8 rfl w202 ?_
    refine x_iload_n C dX8_startAnew_21 22 rfl 1 rfl rfl ?_
    refine x_iconst C dX8_startAnew_22 23 rfl 1 (by decide) ?_
    obtain ⟨σ23, hσ23, hf⟩ := x_bind hf
    refine x_iastore C dX8_startAnew_23 24 rfl hσ23 ?_
    refine x_aload_n C dX8_startAnew_24 25 rfl 0 rfl rfl ?_
    obtain ⟨v25, hv25, hf⟩ := x_bind hf
    refine x_getR C dX8_startAnew_25 28 rfl hv25 cl8 rfl w205 ?_
    refine x_iload_n C dX8_startAnew_28 29 rfl 1 rfl rfl ?_
    refine x_iload_n C dX8_startAnew_29 30 rfl 1 rfl rfl ?_
    obtain ⟨σ30, hσ30, hf⟩ := x_bind hf
    refine x_iastore C dX8_startAnew_30 31 rfl hσ30 ?_
    obtain ⟨v31, ev31, hf⟩ := xlet_some hf
    refine x_iinc C dX8_startAnew_31 34 rfl 1 rfl v31 ev31 rfl [(2, .int (v31)), (0, .ref (x0))] rfl ?_
    refine x_goto C dX8_startAnew_34 12 (by decide) ?_
    refine x_lv [1, 0] (lv' := [(0, .ref (x0)), (2, .int (v31))]) rfl ?_
    exact hK _ (Option.some.inj hf).symm
noncomputable def fX8_startAnew (σ : St) (x0 : Nat) (x1 : Int32) : Option (St) :=
(wrF σ x0 8 0 (.int (x1))).bind fun σ2 =>
(wrF σ2 x0 8 1 (.int (0))).bind fun σ7 =>
(iterP (fLX8_startAnew_12 x0) (0, σ7)).bind fun b12 =>
(gI b12 x0 8 6).bind fun v39 =>
(wrF b12 x0 8 6 (.int (v39 + 1))).bind fun σ44 =>
some σ44
set_option maxHeartbeats 4000000 in
set_option maxRecDepth 100000 in
theorem cX8_startAnewc {l : Launch} {G : xG} {A : Nat → Prop} {σ : St} {x0 : Nat} {x1 : Int32} {c : St} (hf : fX8_startAnew σ x0 x1 = some c) : Con l yX8_startAnew (xws yX8_startAnew cX8_startAnew 3 none) rmX8_startAnew [.ref (x0), .int (x1)] G A σ none c := by
  refine x_start rfl (Nat.le_of_ble_eq_true rfl) (fun X _ _ _ C hE0 => ?_)
  have hE : ∀ r, c = r → xE1 X none r := fun r e => e ▸ hE0
  show V X (0, 0) σ 0 [(0, .ref (x0)), (1, .int (x1))] []
  unfold fX8_startAnew at hf
  refine x_aload_n C dX8_startAnew_0 1 rfl 0 rfl rfl ?_
  refine x_iload_n C dX8_startAnew_1 2 rfl 1 rfl rfl ?_
  obtain ⟨σ2, hσ2, hf⟩ := x_bind hf
  refine x_putX C dX8_startAnew_2 5 rfl hσ2 cl8 rfl w178 rfl rfl rfl ?_
  refine x_aload_n C dX8_startAnew_5 6 rfl 0 rfl rfl ?_
  refine x_iconst C dX8_startAnew_6 7 rfl 0 (by decide) ?_
  obtain ⟨σ7, hσ7, hf⟩ := x_bind hf
  refine x_putX C dX8_startAnew_7 10 rfl hσ7 cl8 rfl w182 rfl rfl rfl ?_
  refine x_iconst C dX8_startAnew_10 11 rfl 0 (by decide) ?_
  refine x_istore_n C dX8_startAnew_11 12 rfl rfl rfl [(2, .int (0)), (0, .ref (x0)), (1, .int (x1))] rfl ?_
  obtain ⟨b12, hb12, hf⟩ := x_bind hf
  refine x_lv [1, 0] (lv' := [(0, .ref (x0)), (2, .int (0))]) rfl ?_
  refine lpX8_startAnew_12 C hb12 (fun s12 e12 => ?_)
  subst e12
  refine x_aload_n C dX8_startAnew_37 38 rfl 0 rfl rfl ?_
  refine x_dup C dX8_startAnew_38 39 rfl rfl ?_
  obtain ⟨v39, hv39, hf⟩ := x_bind hf
  refine x_getI C dX8_startAnew_39 42 rfl hv39 cl8 rfl w208 ?_
  refine x_iconst C dX8_startAnew_42 43 rfl 1 (by decide) ?_
  refine x_iadd C dX8_startAnew_43 44 rfl ?_
  obtain ⟨σ44, hσ44, hf⟩ := x_bind hf
  refine x_putX C dX8_startAnew_44 47 rfl hσ44 cl8 rfl w208 rfl rfl rfl ?_
  exact x_vret C (hE _ (Option.some.inj hf).symm) dX8_startAnew_47
