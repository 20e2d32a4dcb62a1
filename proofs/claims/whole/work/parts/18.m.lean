/-! methods: X12_copies X12_back X12_byteAt X12_placeIn X12_reaches X12_laysReach X12_isReached X12_came X12_isMade X12_canon X12_fine X12_check X12_clears X12_doesFall -/
theorem dX12_copies_0 : decode cX12_copies 0 = .ok (.iconst 0, 1) := by decide +kernel
theorem dX12_copies_1 : decode cX12_copies 1 = .ok (.istore 4, 2) := by decide +kernel
theorem dX12_copies_3 : decode cX12_copies 3 = .ok (.iload 4, 2) := by decide +kernel
theorem dX12_copies_5 : decode cX12_copies 5 = .ok (.sipush 294, 3) := by decide +kernel
theorem dX12_copies_8 : decode cX12_copies 8 = .ok (.if_icmp .ge 21, 3) := by decide +kernel
theorem dX12_copies_11 : decode cX12_copies 11 = .ok (.aload_n 2, 1) := by decide +kernel
theorem dX12_copies_12 : decode cX12_copies 12 = .ok (.iload_n 3, 1) := by decide +kernel
theorem dX12_copies_13 : decode cX12_copies 13 = .ok (.iload 4, 2) := by decide +kernel
theorem dX12_copies_15 : decode cX12_copies 15 = .ok (.iadd, 1) := by decide +kernel
theorem dX12_copies_16 : decode cX12_copies 16 = .ok (.aload_n 0, 1) := by decide +kernel
theorem dX12_copies_17 : decode cX12_copies 17 = .ok (.iload_n 1, 1) := by decide +kernel
theorem dX12_copies_18 : decode cX12_copies 18 = .ok (.iload 4, 2) := by decide +kernel
theorem dX12_copies_20 : decode cX12_copies 20 = .ok (.iadd, 1) := by decide +kernel
theorem dX12_copies_21 : decode cX12_copies 21 = .ok (.laload, 1) := by decide +kernel
theorem dX12_copies_22 : decode cX12_copies 22 = .ok (.lastore, 1) := by decide +kernel
theorem dX12_copies_23 : decode cX12_copies 23 = .ok (.iinc 4 1, 3) := by decide +kernel
theorem dX12_copies_26 : decode cX12_copies 26 = .ok (.goto (-23), 3) := by decide +kernel
theorem dX12_copies_29 : decode cX12_copies 29 = .ok (.return_, 1) := by decide +kernel
abbrev rmX12_copies : Room := { frames := 0, cells := 0, slots := 0, locals := 0 }
noncomputable def fLX12_copies_3 (x0 : Nat) (x1 : Int32) (x2 : Nat) (x3 : Int32) (a : Int32 × St) : Option ((Int32 × St) ⊕ (St)) :=
if ((294 : Int32)) ≤ a.1 then
(some (Sum.inr a.2))
else
((aL a.2 x0 (x1 + a.1)).bind fun v21 =>
(sL a.2 x2 (x3 + a.1) v21).bind fun σ22 =>
xlet (a.1 + 1) fun v23 =>
some (Sum.inl (v23, σ22)))
set_option maxHeartbeats 4000000 in
set_option maxRecDepth 100000 in
theorem lpX12_copies_3 {X : xX} {x0 : Nat} {x1 : Int32} {x2 : Nat} {x3 : Int32}  {a0 : Int32 × St} {b : St} (C : Ok X cX12_copies 5 RX12 rmX12_copies none) (hb : iterP (fLX12_copies_3 x0 x1 x2 x3) a0 = some b) (hy0 : ∀ s, b = s → V X (0, 0) s 29 [] []) : V X (0, 0) a0.2 3 [(0, .ref (x0)), (1, .int (x1)), (2, .ref (x2)), (3, .int (x3)), (4, .int (a0.1))] [] := by
  obtain ⟨n, hn⟩ := iterP_some hb
  refine x_loop (P := fun a => V X (0, 0) a.2 3 [(0, .ref (x0)), (1, .int (x1)), (2, .ref (x2)), (3, .int (x3)), (4, .int (a.1))] []) ?_ n a0 hn
  intro a c hf hK hxx
  have hx0 : ∀ s, c = Sum.inr s → V X (0, 0) s 29 [] [] := fun s e => hy0 s (hxx _ e).symm
  unfold fLX12_copies_3 at hf
  refine x_iload C dX12_copies_3 5 rfl 4 rfl ?_
  refine x_sipush C dX12_copies_5 8 rfl 294 (by decide) ?_
  refine x_icmp_ge C dX12_copies_8 29 (by decide) 11 rfl (fun hc => ?_) (fun hc => ?_)
  · have hf := (if_pos hc).symm.trans hf
    refine x_lv [] (lv' := []) rfl ?_
    exact hx0 _ (Option.some.inj hf).symm
  · have hf := (if_neg hc).symm.trans hf
    refine x_aload_n C dX12_copies_11 12 rfl 2 rfl rfl ?_
    refine x_iload_n C dX12_copies_12 13 rfl 3 rfl rfl ?_
    refine x_iload C dX12_copies_13 15 rfl 4 rfl ?_
    refine x_iadd C dX12_copies_15 16 rfl ?_
    refine x_aload_n C dX12_copies_16 17 rfl 0 rfl rfl ?_
    refine x_iload_n C dX12_copies_17 18 rfl 1 rfl rfl ?_
    refine x_iload C dX12_copies_18 20 rfl 4 rfl ?_
    refine x_iadd C dX12_copies_20 21 rfl ?_
    obtain ⟨v21, hv21, hf⟩ := x_bind hf
    refine x_laload C dX12_copies_21 22 rfl hv21 ?_
    obtain ⟨σ22, hσ22, hf⟩ := x_bind hf
    refine x_lastore C dX12_copies_22 23 rfl hσ22 ?_
    obtain ⟨v23, ev23, hf⟩ := xlet_some hf
    refine x_iinc C dX12_copies_23 26 rfl 4 rfl v23 ev23 rfl [(4, .int (v23)), (0, .ref (x0)), (1, .int (x1)), (2, .ref (x2)), (3, .int (x3))] rfl ?_
    refine x_goto C dX12_copies_26 3 (by decide) ?_
    refine x_lv [1, 2, 3, 4, 0] (lv' := [(0, .ref (x0)), (1, .int (x1)), (2, .ref (x2)), (3, .int (x3)), (4, .int (v23))]) rfl ?_
    exact hK _ (Option.some.inj hf).symm
noncomputable def fX12_copies (σ : St) (x0 : Nat) (x1 : Int32) (x2 : Nat) (x3 : Int32) : Option (St) :=
(iterP (fLX12_copies_3 x0 x1 x2 x3) (0, σ)).bind fun b3 =>
some b3
set_option maxHeartbeats 4000000 in
set_option maxRecDepth 100000 in
theorem cX12_copiesc {l : Launch} {G : xG} {A : Nat → Prop} {σ : St} {x0 : Nat} {x1 : Int32} {x2 : Nat} {x3 : Int32} {c : St} (hf : fX12_copies σ x0 x1 x2 x3 = some c) : Con l yX12_copies (xws yX12_copies cX12_copies 5 none) rmX12_copies [.ref (x0), .int (x1), .ref (x2), .int (x3)] G A σ none c := by
  refine x_start rfl (Nat.le_of_ble_eq_true rfl) (fun X _ _ _ C hE0 => ?_)
  have hE : ∀ r, c = r → xE1 X none r := fun r e => e ▸ hE0
  show V X (0, 0) σ 0 [(0, .ref (x0)), (1, .int (x1)), (2, .ref (x2)), (3, .int (x3))] []
  unfold fX12_copies at hf
  refine x_iconst C dX12_copies_0 1 rfl 0 (by decide) ?_
  refine x_istore C dX12_copies_1 3 rfl rfl [(4, .int (0)), (0, .ref (x0)), (1, .int (x1)), (2, .ref (x2)), (3, .int (x3))] rfl ?_
  obtain ⟨b3, hb3, hf⟩ := x_bind hf
  refine x_lv [1, 2, 3, 4, 0] (lv' := [(0, .ref (x0)), (1, .int (x1)), (2, .ref (x2)), (3, .int (x3)), (4, .int (0))]) rfl ?_
  refine lpX12_copies_3 C hb3 (fun s3 e3 => ?_)
  subst e3
  exact x_vret C (hE _ (Option.some.inj hf).symm) dX12_copies_29
theorem dX12_back_0 : decode cX12_back 0 = .ok (.aload_n 0, 1) := by decide +kernel
theorem dX12_back_1 : decode cX12_back 1 = .ok (.iconst 0, 1) := by decide +kernel
theorem dX12_back_2 : decode cX12_back 2 = .ok (.putfield 1, 3) := by decide +kernel
theorem dX12_back_5 : decode cX12_back 5 = .ok (.aload_n 0, 1) := by decide +kernel
theorem dX12_back_6 : decode cX12_back 6 = .ok (.getfield 120, 3) := by decide +kernel
theorem dX12_back_9 : decode cX12_back 9 = .ok (.ifCond .ne 5, 3) := by decide +kernel
theorem dX12_back_12 : decode cX12_back 12 = .ok (.iconst 0, 1) := by decide +kernel
theorem dX12_back_13 : decode cX12_back 13 = .ok (.ireturn, 1) := by decide +kernel
theorem dX12_back_14 : decode cX12_back 14 = .ok (.aload_n 0, 1) := by decide +kernel
theorem dX12_back_15 : decode cX12_back 15 = .ok (.getfield 20, 3) := by decide +kernel
theorem dX12_back_18 : decode cX12_back 18 = .ok (.iconst 0, 1) := by decide +kernel
theorem dX12_back_19 : decode cX12_back 19 = .ok (.aload_n 0, 1) := by decide +kernel
theorem dX12_back_20 : decode cX12_back 20 = .ok (.getfield 13, 3) := by decide +kernel
theorem dX12_back_23 : decode cX12_back 23 = .ok (.iconst 0, 1) := by decide +kernel
theorem dX12_back_24 : decode cX12_back 24 = .ok (.invokestatic 116, 3) := by decide +kernel
theorem dX12_back_27 : decode cX12_back 27 = .ok (.aload_n 0, 1) := by decide +kernel
theorem dX12_back_28 : decode cX12_back 28 = .ok (.iconst 0, 1) := by decide +kernel
theorem dX12_back_29 : decode cX12_back 29 = .ok (.putfield 113, 3) := by decide +kernel
theorem dX12_back_32 : decode cX12_back 32 = .ok (.iconst 1, 1) := by decide +kernel
theorem dX12_back_33 : decode cX12_back 33 = .ok (.ireturn, 1) := by decide +kernel
abbrev rmX12_back : Room := { frames := 1, cells := 0, slots := 0, locals := 24 }
noncomputable def fX12_back (σ : St) (x0 : Nat) : Option ((Int32 × St)) :=
(wrF σ x0 11 0 (.int (0))).bind fun σ2 =>
(gI σ2 x0 11 4).bind fun v6 =>
if v6 = 0 then
(some (0, σ2))
else
((gR σ2 x0 11 3).bind fun v15 =>
(gR σ2 x0 11 1).bind fun v20 =>
(fX12_copies σ2 v15 0 v20 0).bind fun w24 =>
(wrF w24 x0 11 5 (.int (0))).bind fun σ29 =>
some (1, σ29))
set_option maxHeartbeats 4000000 in
set_option maxRecDepth 100000 in
theorem cX12_backc {l : Launch} {G : xG} {A : Nat → Prop} {σ : St} {x0 : Nat} {c : (Int32 × St)} (hf : fX12_back σ x0 = some c) : Con l yX12_back (xws yX12_back cX12_back 1 (some .boolean)) rmX12_back [.ref (x0)] G A σ (some (.int c.1)) c.2 := by
  refine x_start rfl (Nat.le_of_ble_eq_true rfl) (fun X _ _ _ C hE0 => ?_)
  have hE : ∀ r, c = r → xE1 X (some (.int r.1)) r.2 := fun r e => e ▸ hE0
  show V X (0, 0) σ 0 [(0, .ref (x0))] []
  unfold fX12_back at hf
  refine x_aload_n C dX12_back_0 1 rfl 0 rfl rfl ?_
  refine x_iconst C dX12_back_1 2 rfl 0 (by decide) ?_
  obtain ⟨σ2, hσ2, hf⟩ := x_bind hf
  refine x_putX C dX12_back_2 5 rfl hσ2 cl11 rfl w1443 rfl rfl rfl ?_
  refine x_aload_n C dX12_back_5 6 rfl 0 rfl rfl ?_
  obtain ⟨v6, hv6, hf⟩ := x_bind hf
  refine x_getI C dX12_back_6 9 rfl hv6 cl11 rfl w1447 ?_
  refine x_if_ne C dX12_back_9 14 (by decide) 12 rfl (fun hc => ?_) (fun hc => ?_)
  · have hf := (if_neg hc).symm.trans hf
    refine x_aload_n C dX12_back_14 15 rfl 0 rfl rfl ?_
    obtain ⟨v15, hv15, hf⟩ := x_bind hf
    refine x_getR C dX12_back_15 18 rfl hv15 cl11 rfl w1446 ?_
    refine x_iconst C dX12_back_18 19 rfl 0 (by decide) ?_
    refine x_aload_n C dX12_back_19 20 rfl 0 rfl rfl ?_
    obtain ⟨v20, hv20, hf⟩ := x_bind hf
    refine x_getR C dX12_back_20 23 rfl hv20 cl11 rfl w1444 ?_
    refine x_iconst C dX12_back_23 24 rfl 0 (by decide) ?_
    obtain ⟨w24, hw24, hf⟩ := x_bind hf
    refine x_callSv C dX12_back_24 27 rfl (cX12_copiesc hw24) kX12_copies ksX12_copies w1622 ⟨rfl, rfl⟩ ⟨Nat.le_of_ble_eq_true rfl, Nat.le_of_ble_eq_true rfl⟩ ⟨Nat.zero_le _, Nat.zero_le _⟩ rfl rfl (Nat.le_of_ble_eq_true rfl) ?_
    refine x_aload_n C dX12_back_27 28 rfl 0 rfl rfl ?_
    refine x_iconst C dX12_back_28 29 rfl 0 (by decide) ?_
    obtain ⟨σ29, hσ29, hf⟩ := x_bind hf
    refine x_putX C dX12_back_29 32 rfl hσ29 cl11 rfl w1448 rfl rfl rfl ?_
    refine x_iconst C dX12_back_32 33 rfl 1 (by decide) ?_
    exact x_zret C rfl (hE _ (Option.some.inj hf).symm) dX12_back_33
  · have hf := (if_pos hc).symm.trans hf
    refine x_iconst C dX12_back_12 13 rfl 0 (by decide) ?_
    exact x_zret C rfl (hE _ (Option.some.inj hf).symm) dX12_back_13
theorem dX12_byteAt_0 : decode cX12_byteAt 0 = .ok (.iload_n 1, 1) := by decide +kernel
theorem dX12_byteAt_1 : decode cX12_byteAt 1 = .ok (.aload_n 0, 1) := by decide +kernel
theorem dX12_byteAt_2 : decode cX12_byteAt 2 = .ok (.getfield 175, 3) := by decide +kernel
theorem dX12_byteAt_5 : decode cX12_byteAt 5 = .ok (.if_icmp .ge 16, 3) := by decide +kernel
theorem dX12_byteAt_8 : decode cX12_byteAt 8 = .ok (.aload_n 0, 1) := by decide +kernel
theorem dX12_byteAt_9 : decode cX12_byteAt 9 = .ok (.getfield 23, 3) := by decide +kernel
theorem dX12_byteAt_12 : decode cX12_byteAt 12 = .ok (.iload_n 1, 1) := by decide +kernel
theorem dX12_byteAt_13 : decode cX12_byteAt 13 = .ok (.baload, 1) := by decide +kernel
theorem dX12_byteAt_14 : decode cX12_byteAt 14 = .ok (.sipush 255, 3) := by decide +kernel
theorem dX12_byteAt_17 : decode cX12_byteAt 17 = .ok (.iand, 1) := by decide +kernel
theorem dX12_byteAt_18 : decode cX12_byteAt 18 = .ok (.goto 4, 3) := by decide +kernel
theorem dX12_byteAt_21 : decode cX12_byteAt 21 = .ok (.iconst 0, 1) := by decide +kernel
theorem dX12_byteAt_22 : decode cX12_byteAt 22 = .ok (.ireturn, 1) := by decide +kernel
abbrev rmX12_byteAt : Room := { frames := 0, cells := 0, slots := 0, locals := 0 }
noncomputable def fX12_byteAt (σ : St) (x0 : Nat) (x1 : Int32) : Option (Int32) :=
(gI σ x0 11 8).bind fun v2 =>
if v2 ≤ x1 then
(some 0)
else
((gR σ x0 11 6).bind fun v9 =>
(aI σ v9 2 x1).bind fun v13 =>
some (v13 &&& 255))
set_option maxHeartbeats 4000000 in
set_option maxRecDepth 100000 in
theorem cX12_byteAtc {l : Launch} {G : xG} {A : Nat → Prop} {σ : St} {x0 : Nat} {x1 : Int32} {c : Int32} (hf : fX12_byteAt σ x0 x1 = some c) : Con l yX12_byteAt (xws yX12_byteAt cX12_byteAt 2 (some .int)) rmX12_byteAt [.ref (x0), .int (x1)] G A σ (some (.int c)) σ := by
  refine x_start rfl (Nat.le_of_ble_eq_true rfl) (fun X _ _ _ C hE0 => ?_)
  have hE : ∀ r, c = r → xE1 X (some (.int r)) σ := fun r e => e ▸ hE0
  show V X (0, 0) σ 0 [(0, .ref (x0)), (1, .int (x1))] []
  unfold fX12_byteAt at hf
  refine x_iload_n C dX12_byteAt_0 1 rfl 1 rfl rfl ?_
  refine x_aload_n C dX12_byteAt_1 2 rfl 0 rfl rfl ?_
  obtain ⟨v2, hv2, hf⟩ := x_bind hf
  refine x_getI C dX12_byteAt_2 5 rfl hv2 cl11 rfl w1451 ?_
  refine x_icmp_ge C dX12_byteAt_5 21 (by decide) 8 rfl (fun hc => ?_) (fun hc => ?_)
  · have hf := (if_pos hc).symm.trans hf
    refine x_iconst C dX12_byteAt_21 22 rfl 0 (by decide) ?_
    exact x_iret C (hE _ (Option.some.inj hf).symm) dX12_byteAt_22
  · have hf := (if_neg hc).symm.trans hf
    refine x_aload_n C dX12_byteAt_8 9 rfl 0 rfl rfl ?_
    obtain ⟨v9, hv9, hf⟩ := x_bind hf
    refine x_getR C dX12_byteAt_9 12 rfl hv9 cl11 rfl w1449 ?_
    refine x_iload_n C dX12_byteAt_12 13 rfl 1 rfl rfl ?_
    obtain ⟨v13, hv13, hf⟩ := x_bind hf
    refine x_baload C dX12_byteAt_13 14 rfl hv13 ?_
    refine x_sipush C dX12_byteAt_14 17 rfl 255 (by decide) ?_
    refine x_iand C dX12_byteAt_17 18 rfl ?_
    refine x_goto C dX12_byteAt_18 22 (by decide) ?_
    exact x_iret C (hE _ (Option.some.inj hf).symm) dX12_byteAt_22
theorem dX12_placeIn_0 : decode cX12_placeIn 0 = .ok (.iconst 0, 1) := by decide +kernel
theorem dX12_placeIn_1 : decode cX12_placeIn 1 = .ok (.istore 4, 2) := by decide +kernel
theorem dX12_placeIn_3 : decode cX12_placeIn 3 = .ok (.iload 4, 2) := by decide +kernel
theorem dX12_placeIn_5 : decode cX12_placeIn 5 = .ok (.aload_n 0, 1) := by decide +kernel
theorem dX12_placeIn_6 : decode cX12_placeIn 6 = .ok (.getfield 49, 3) := by decide +kernel
theorem dX12_placeIn_9 : decode cX12_placeIn 9 = .ok (.iload_n 1, 1) := by decide +kernel
theorem dX12_placeIn_10 : decode cX12_placeIn 10 = .ok (.iaload, 1) := by decide +kernel
theorem dX12_placeIn_11 : decode cX12_placeIn 11 = .ok (.if_icmp .ge 30, 3) := by decide +kernel
theorem dX12_placeIn_14 : decode cX12_placeIn 14 = .ok (.aload_n 0, 1) := by decide +kernel
theorem dX12_placeIn_15 : decode cX12_placeIn 15 = .ok (.getfield 43, 3) := by decide +kernel
theorem dX12_placeIn_18 : decode cX12_placeIn 18 = .ok (.sipush 200, 3) := by decide +kernel
theorem dX12_placeIn_21 : decode cX12_placeIn 21 = .ok (.iload_n 1, 1) := by decide +kernel
theorem dX12_placeIn_22 : decode cX12_placeIn 22 = .ok (.imul, 1) := by decide +kernel
theorem dX12_placeIn_23 : decode cX12_placeIn 23 = .ok (.iload 4, 2) := by decide +kernel
theorem dX12_placeIn_25 : decode cX12_placeIn 25 = .ok (.iadd, 1) := by decide +kernel
theorem dX12_placeIn_26 : decode cX12_placeIn 26 = .ok (.laload, 1) := by decide +kernel
theorem dX12_placeIn_27 : decode cX12_placeIn 27 = .ok (.lload_n 2, 1) := by decide +kernel
theorem dX12_placeIn_28 : decode cX12_placeIn 28 = .ok (.lcmp, 1) := by decide +kernel
theorem dX12_placeIn_29 : decode cX12_placeIn 29 = .ok (.ifCond .ne 6, 3) := by decide +kernel
theorem dX12_placeIn_32 : decode cX12_placeIn 32 = .ok (.iload 4, 2) := by decide +kernel
theorem dX12_placeIn_34 : decode cX12_placeIn 34 = .ok (.ireturn, 1) := by decide +kernel
theorem dX12_placeIn_35 : decode cX12_placeIn 35 = .ok (.iinc 4 1, 3) := by decide +kernel
theorem dX12_placeIn_38 : decode cX12_placeIn 38 = .ok (.goto (-35), 3) := by decide +kernel
theorem dX12_placeIn_41 : decode cX12_placeIn 41 = .ok (.iconst (-1), 1) := by decide +kernel
theorem dX12_placeIn_42 : decode cX12_placeIn 42 = .ok (.ireturn, 1) := by decide +kernel
abbrev rmX12_placeIn : Room := { frames := 0, cells := 0, slots := 0, locals := 0 }
noncomputable def fLX12_placeIn_3 (σ : St) (x0 : Nat) (x1 : Int32) (x2 : Int64) (a : Int32) : Option ((Int32) ⊕ ((Int32) ⊕ (Unit))) :=
(gR σ x0 11 27).bind fun v6 =>
(aI σ v6 0 x1).bind fun v10 =>
if v10 ≤ a then
(some (Sum.inr (Sum.inr ())))
else
((gR σ x0 11 25).bind fun v15 =>
(aL σ v15 ((200 * x1) + a)).bind fun v26 =>
if (lg_cmp v26 x2) = 0 then
(some (Sum.inr (Sum.inl a)))
else
(xlet (a + 1) fun v35 =>
some (Sum.inl v35)))
set_option maxHeartbeats 4000000 in
set_option maxRecDepth 100000 in
theorem lpX12_placeIn_3 {X : xX} {σ : St} {x0 : Nat} {x1 : Int32} {x2 : Int64}  {a0 : Int32} {b : (Int32) ⊕ (Unit)} (C : Ok X cX12_placeIn 5 RX12 rmX12_placeIn (some .int)) (hb : iterP (fLX12_placeIn_3 σ x0 x1 x2) a0 = some b) (hy0 : ∀ s, b = (Sum.inl s) → V X (0, 0) σ 32 [(4, .int (s))] []) (hy1 : ∀ s, b = (Sum.inr s) → V X (0, 0) σ 41 [] []) : V X (0, 0) σ 3 [(0, .ref (x0)), (1, .int (x1)), (2, .long (x2)), (4, .int (a0))] [] := by
  obtain ⟨n, hn⟩ := iterP_some hb
  refine x_loop (P := fun a => V X (0, 0) σ 3 [(0, .ref (x0)), (1, .int (x1)), (2, .long (x2)), (4, .int (a))] []) ?_ n a0 hn
  intro a c hf hK hxx
  have hx0 : ∀ s, c = Sum.inr (Sum.inl s) → V X (0, 0) σ 32 [(4, .int (s))] [] := fun s e => hy0 s (hxx _ e).symm
  have hx1 : ∀ s, c = Sum.inr (Sum.inr s) → V X (0, 0) σ 41 [] [] := fun s e => hy1 s (hxx _ e).symm
  unfold fLX12_placeIn_3 at hf
  refine x_iload C dX12_placeIn_3 5 rfl 3 rfl ?_
  refine x_aload_n C dX12_placeIn_5 6 rfl 0 rfl rfl ?_
  obtain ⟨v6, hv6, hf⟩ := x_bind hf
  refine x_getR C dX12_placeIn_6 9 rfl hv6 cl11 rfl w1470 ?_
  refine x_iload_n C dX12_placeIn_9 10 rfl 1 rfl rfl ?_
  obtain ⟨v10, hv10, hf⟩ := x_bind hf
  refine x_iaload C dX12_placeIn_10 11 rfl hv10 ?_
  refine x_icmp_ge C dX12_placeIn_11 41 (by decide) 14 rfl (fun hc => ?_) (fun hc => ?_)
  · have hf := (if_pos hc).symm.trans hf
    refine x_lv [] (lv' := []) rfl ?_
    exact hx1 _ (Option.some.inj hf).symm
  · have hf := (if_neg hc).symm.trans hf
    refine x_aload_n C dX12_placeIn_14 15 rfl 0 rfl rfl ?_
    obtain ⟨v15, hv15, hf⟩ := x_bind hf
    refine x_getR C dX12_placeIn_15 18 rfl hv15 cl11 rfl w1468 ?_
    refine x_sipush C dX12_placeIn_18 21 rfl 200 (by decide) ?_
    refine x_iload_n C dX12_placeIn_21 22 rfl 1 rfl rfl ?_
    refine x_imul C dX12_placeIn_22 23 rfl ?_
    refine x_iload C dX12_placeIn_23 25 rfl 3 rfl ?_
    refine x_iadd C dX12_placeIn_25 26 rfl ?_
    obtain ⟨v26, hv26, hf⟩ := x_bind hf
    refine x_laload C dX12_placeIn_26 27 rfl hv26 ?_
    refine x_lload_n C dX12_placeIn_27 28 rfl 2 rfl rfl ?_
    refine x_lcmp C dX12_placeIn_28 29 rfl ?_
    refine x_if_ne C dX12_placeIn_29 35 (by decide) 32 rfl (fun hc => ?_) (fun hc => ?_)
    · have hf := (if_neg hc).symm.trans hf
      obtain ⟨v35, ev35, hf⟩ := xlet_some hf
      refine x_iinc C dX12_placeIn_35 38 rfl 3 rfl v35 ev35 rfl [(4, .int (v35)), (0, .ref (x0)), (1, .int (x1)), (2, .long (x2))] rfl ?_
      refine x_goto C dX12_placeIn_38 3 (by decide) ?_
      refine x_lv [1, 2, 3, 0] (lv' := [(0, .ref (x0)), (1, .int (x1)), (2, .long (x2)), (4, .int (v35))]) rfl ?_
      exact hK _ (Option.some.inj hf).symm
    · have hf := (if_pos hc).symm.trans hf
      refine x_lv [3] (lv' := [(4, .int (a))]) rfl ?_
      exact hx0 _ (Option.some.inj hf).symm
noncomputable def fX12_placeIn (σ : St) (x0 : Nat) (x1 : Int32) (x2 : Int64) : Option (Int32) :=
(iterP (fLX12_placeIn_3 σ x0 x1 x2) 0).bind fun b3 =>
(match b3 with
| .inl s3 =>
some s3
| .inr s3 =>
some (-1))
set_option maxHeartbeats 4000000 in
set_option maxRecDepth 100000 in
theorem cX12_placeInc {l : Launch} {G : xG} {A : Nat → Prop} {σ : St} {x0 : Nat} {x1 : Int32} {x2 : Int64} {c : Int32} (hf : fX12_placeIn σ x0 x1 x2 = some c) : Con l yX12_placeIn (xws yX12_placeIn cX12_placeIn 5 (some .int)) rmX12_placeIn [.ref (x0), .int (x1), .long (x2)] G A σ (some (.int c)) σ := by
  refine x_start rfl (Nat.le_of_ble_eq_true rfl) (fun X _ _ _ C hE0 => ?_)
  have hE : ∀ r, c = r → xE1 X (some (.int r)) σ := fun r e => e ▸ hE0
  show V X (0, 0) σ 0 [(0, .ref (x0)), (1, .int (x1)), (2, .long (x2))] []
  unfold fX12_placeIn at hf
  refine x_iconst C dX12_placeIn_0 1 rfl 0 (by decide) ?_
  refine x_istore C dX12_placeIn_1 3 rfl rfl [(4, .int (0)), (0, .ref (x0)), (1, .int (x1)), (2, .long (x2))] rfl ?_
  obtain ⟨b3, hb3, hf⟩ := x_bind hf
  refine x_lv [1, 2, 3, 0] (lv' := [(0, .ref (x0)), (1, .int (x1)), (2, .long (x2)), (4, .int (0))]) rfl ?_
  refine lpX12_placeIn_3 C hb3 (fun s3 e3 => ?_) (fun s3 e3 => ?_)
  · subst e3
    try dsimp only at hf
    refine x_iload C dX12_placeIn_32 34 rfl 0 rfl ?_
    exact x_iret C (hE _ (Option.some.inj hf).symm) dX12_placeIn_34
  · subst e3
    try dsimp only at hf
    refine x_iconst C dX12_placeIn_41 42 rfl (-1) (by decide) ?_
    exact x_iret C (hE _ (Option.some.inj hf).symm) dX12_placeIn_42
theorem dX12_reaches_0 : decode cX12_reaches 0 = .ok (.aload_n 0, 1) := by decide +kernel
theorem dX12_reaches_1 : decode cX12_reaches 1 = .ok (.getfield 49, 3) := by decide +kernel
theorem dX12_reaches_4 : decode cX12_reaches 4 = .ok (.iload_n 1, 1) := by decide +kernel
theorem dX12_reaches_5 : decode cX12_reaches 5 = .ok (.iaload, 1) := by decide +kernel
theorem dX12_reaches_6 : decode cX12_reaches 6 = .ok (.istore 5, 2) := by decide +kernel
theorem dX12_reaches_8 : decode cX12_reaches 8 = .ok (.iload 5, 2) := by decide +kernel
theorem dX12_reaches_10 : decode cX12_reaches 10 = .ok (.sipush 200, 3) := by decide +kernel
theorem dX12_reaches_13 : decode cX12_reaches 13 = .ok (.if_icmp .eq 13, 3) := by decide +kernel
theorem dX12_reaches_16 : decode cX12_reaches 16 = .ok (.aload_n 0, 1) := by decide +kernel
theorem dX12_reaches_17 : decode cX12_reaches 17 = .ok (.iload_n 1, 1) := by decide +kernel
theorem dX12_reaches_18 : decode cX12_reaches 18 = .ok (.lload_n 2, 1) := by decide +kernel
theorem dX12_reaches_19 : decode cX12_reaches 19 = .ok (.invokevirtual 332, 3) := by decide +kernel
theorem dX12_reaches_22 : decode cX12_reaches 22 = .ok (.iconst (-1), 1) := by decide +kernel
theorem dX12_reaches_23 : decode cX12_reaches 23 = .ok (.if_icmp .eq 4, 3) := by decide +kernel
theorem dX12_reaches_26 : decode cX12_reaches 26 = .ok (.return_, 1) := by decide +kernel
theorem dX12_reaches_27 : decode cX12_reaches 27 = .ok (.aload_n 0, 1) := by decide +kernel
theorem dX12_reaches_28 : decode cX12_reaches 28 = .ok (.getfield 43, 3) := by decide +kernel
theorem dX12_reaches_31 : decode cX12_reaches 31 = .ok (.sipush 200, 3) := by decide +kernel
theorem dX12_reaches_34 : decode cX12_reaches 34 = .ok (.iload_n 1, 1) := by decide +kernel
theorem dX12_reaches_35 : decode cX12_reaches 35 = .ok (.imul, 1) := by decide +kernel
theorem dX12_reaches_36 : decode cX12_reaches 36 = .ok (.iload 5, 2) := by decide +kernel
theorem dX12_reaches_38 : decode cX12_reaches 38 = .ok (.iadd, 1) := by decide +kernel
theorem dX12_reaches_39 : decode cX12_reaches 39 = .ok (.lload_n 2, 1) := by decide +kernel
theorem dX12_reaches_40 : decode cX12_reaches 40 = .ok (.lastore, 1) := by decide +kernel
theorem dX12_reaches_41 : decode cX12_reaches 41 = .ok (.aload_n 0, 1) := by decide +kernel
theorem dX12_reaches_42 : decode cX12_reaches 42 = .ok (.getfield 46, 3) := by decide +kernel
theorem dX12_reaches_45 : decode cX12_reaches 45 = .ok (.sipush 200, 3) := by decide +kernel
theorem dX12_reaches_48 : decode cX12_reaches 48 = .ok (.iload_n 1, 1) := by decide +kernel
theorem dX12_reaches_49 : decode cX12_reaches 49 = .ok (.imul, 1) := by decide +kernel
theorem dX12_reaches_50 : decode cX12_reaches 50 = .ok (.iload 5, 2) := by decide +kernel
theorem dX12_reaches_52 : decode cX12_reaches 52 = .ok (.iadd, 1) := by decide +kernel
theorem dX12_reaches_53 : decode cX12_reaches 53 = .ok (.iload 4, 2) := by decide +kernel
theorem dX12_reaches_55 : decode cX12_reaches 55 = .ok (.iastore, 1) := by decide +kernel
theorem dX12_reaches_56 : decode cX12_reaches 56 = .ok (.aload_n 0, 1) := by decide +kernel
theorem dX12_reaches_57 : decode cX12_reaches 57 = .ok (.getfield 49, 3) := by decide +kernel
theorem dX12_reaches_60 : decode cX12_reaches 60 = .ok (.iload_n 1, 1) := by decide +kernel
theorem dX12_reaches_61 : decode cX12_reaches 61 = .ok (.dup2, 1) := by decide +kernel
theorem dX12_reaches_62 : decode cX12_reaches 62 = .ok (.iaload, 1) := by decide +kernel
theorem dX12_reaches_63 : decode cX12_reaches 63 = .ok (.iconst 1, 1) := by decide +kernel
theorem dX12_reaches_64 : decode cX12_reaches 64 = .ok (.iadd, 1) := by decide +kernel
theorem dX12_reaches_65 : decode cX12_reaches 65 = .ok (.iastore, 1) := by decide +kernel
theorem dX12_reaches_66 : decode cX12_reaches 66 = .ok (.return_, 1) := by decide +kernel
abbrev rmX12_reaches : Room := { frames := 1, cells := 0, slots := 0, locals := 24 }
noncomputable def fX12_reaches (σ : St) (x0 : Nat) (x1 : Int32) (x2 : Int64) (x4 : Int32) : Option (St) :=
(gR σ x0 11 27).bind fun v1 =>
(aI σ v1 0 x1).bind fun v5 =>
if v5 = ((200 : Int32)) then
(some σ)
else
((isO σ x0 11).bind fun _ =>
(fX12_placeIn σ x0 x1 x2).bind fun w19 =>
if w19 = (((-1) : Int32)) then
((gR σ x0 11 25).bind fun v28 =>
(sL σ v28 ((200 * x1) + v5) x2).bind fun σ40 =>
(gR σ40 x0 11 26).bind fun v42 =>
(sI σ40 v42 ((200 * x1) + v5) x4).bind fun σ55 =>
(gR σ55 x0 11 27).bind fun v57 =>
(aI σ55 v57 0 x1).bind fun v62 =>
(sI σ55 v57 x1 (v62 + 1)).bind fun σ65 =>
some σ65)
else
(some σ))
set_option maxHeartbeats 4000000 in
set_option maxRecDepth 100000 in
theorem cX12_reachesc {l : Launch} {G : xG} {A : Nat → Prop} {σ : St} {x0 : Nat} {x1 : Int32} {x2 : Int64} {x4 : Int32} {c : St} (hf : fX12_reaches σ x0 x1 x2 x4 = some c) : Con l yX12_reaches (xws yX12_reaches cX12_reaches 6 none) rmX12_reaches [.ref (x0), .int (x1), .long (x2), .int (x4)] G A σ none c := by
  refine x_start rfl (Nat.le_of_ble_eq_true rfl) (fun X _ _ _ C hE0 => ?_)
  have hE : ∀ r, c = r → xE1 X none r := fun r e => e ▸ hE0
  show V X (0, 0) σ 0 [(0, .ref (x0)), (1, .int (x1)), (2, .long (x2)), (4, .int (x4))] []
  unfold fX12_reaches at hf
  refine x_aload_n C dX12_reaches_0 1 rfl 0 rfl rfl ?_
  obtain ⟨v1, hv1, hf⟩ := x_bind hf
  refine x_getR C dX12_reaches_1 4 rfl hv1 cl11 rfl w1470 ?_
  refine x_iload_n C dX12_reaches_4 5 rfl 1 rfl rfl ?_
  obtain ⟨v5, hv5, hf⟩ := x_bind hf
  refine x_iaload C dX12_reaches_5 6 rfl hv5 ?_
  refine x_istore C dX12_reaches_6 8 rfl rfl [(5, .int (v5)), (0, .ref (x0)), (1, .int (x1)), (2, .long (x2)), (4, .int (x4))] rfl ?_
  refine x_iload C dX12_reaches_8 10 rfl 0 rfl ?_
  refine x_sipush C dX12_reaches_10 13 rfl 200 (by decide) ?_
  refine x_icmp_eq C dX12_reaches_13 26 (by decide) 16 rfl (fun hc => ?_) (fun hc => ?_)
  · have hf := (if_pos hc).symm.trans hf
    exact x_vret C (hE _ (Option.some.inj hf).symm) dX12_reaches_26
  · have hf := (if_neg hc).symm.trans hf
    refine x_aload_n C dX12_reaches_16 17 rfl 1 rfl rfl ?_
    refine x_iload_n C dX12_reaches_17 18 rfl 2 rfl rfl ?_
    refine x_lload_n C dX12_reaches_18 19 rfl 3 rfl rfl ?_
    obtain ⟨o19, ho19, hf⟩ := x_bind hf
    obtain ⟨w19, hw19, hf⟩ := x_bind hf
    refine x_callVi C dX12_reaches_19 22 rfl ho19 cl11.1 rfl (cX12_placeInc hw19) kX12_placeIn kvX12_placeIn w1960 ⟨rfl, rfl⟩ ⟨Nat.le_of_ble_eq_true rfl, Nat.le_of_ble_eq_true rfl⟩ ⟨Nat.zero_le _, Nat.zero_le _⟩ rfl rfl (Nat.le_of_ble_eq_true rfl) ?_
    refine x_iconst C dX12_reaches_22 23 rfl (-1) (by decide) ?_
    refine x_icmp_eq C dX12_reaches_23 27 (by decide) 26 rfl (fun hc => ?_) (fun hc => ?_)
    · have hf := (if_pos hc).symm.trans hf
      refine x_aload_n C dX12_reaches_27 28 rfl 1 rfl rfl ?_
      obtain ⟨v28, hv28, hf⟩ := x_bind hf
      refine x_getR C dX12_reaches_28 31 rfl hv28 cl11 rfl w1468 ?_
      refine x_sipush C dX12_reaches_31 34 rfl 200 (by decide) ?_
      refine x_iload_n C dX12_reaches_34 35 rfl 2 rfl rfl ?_
      refine x_imul C dX12_reaches_35 36 rfl ?_
      refine x_iload C dX12_reaches_36 38 rfl 0 rfl ?_
      refine x_iadd C dX12_reaches_38 39 rfl ?_
      refine x_lload_n C dX12_reaches_39 40 rfl 3 rfl rfl ?_
      obtain ⟨σ40, hσ40, hf⟩ := x_bind hf
      refine x_lastore C dX12_reaches_40 41 rfl hσ40 ?_
      refine x_aload_n C dX12_reaches_41 42 rfl 1 rfl rfl ?_
      obtain ⟨v42, hv42, hf⟩ := x_bind hf
      refine x_getR C dX12_reaches_42 45 rfl hv42 cl11 rfl w1469 ?_
      refine x_sipush C dX12_reaches_45 48 rfl 200 (by decide) ?_
      refine x_iload_n C dX12_reaches_48 49 rfl 2 rfl rfl ?_
      refine x_imul C dX12_reaches_49 50 rfl ?_
      refine x_iload C dX12_reaches_50 52 rfl 0 rfl ?_
      refine x_iadd C dX12_reaches_52 53 rfl ?_
      refine x_iload C dX12_reaches_53 55 rfl 4 rfl ?_
      obtain ⟨σ55, hσ55, hf⟩ := x_bind hf
      refine x_iastore C dX12_reaches_55 56 rfl hσ55 ?_
      refine x_aload_n C dX12_reaches_56 57 rfl 1 rfl rfl ?_
      obtain ⟨v57, hv57, hf⟩ := x_bind hf
      refine x_getR C dX12_reaches_57 60 rfl hv57 cl11 rfl w1470 ?_
      refine x_iload_n C dX12_reaches_60 61 rfl 2 rfl rfl ?_
      refine x_dup2 C dX12_reaches_61 62 rfl rfl rfl ?_
      obtain ⟨v62, hv62, hf⟩ := x_bind hf
      refine x_iaload C dX12_reaches_62 63 rfl hv62 ?_
      refine x_iconst C dX12_reaches_63 64 rfl 1 (by decide) ?_
      refine x_iadd C dX12_reaches_64 65 rfl ?_
      obtain ⟨σ65, hσ65, hf⟩ := x_bind hf
      refine x_iastore C dX12_reaches_65 66 rfl hσ65 ?_
      exact x_vret C (hE _ (Option.some.inj hf).symm) dX12_reaches_66
    · have hf := (if_neg hc).symm.trans hf
      exact x_vret C (hE _ (Option.some.inj hf).symm) dX12_reaches_26
theorem dX12_laysReach_0 : decode cX12_laysReach 0 = .ok (.aload_n 0, 1) := by decide +kernel
theorem dX12_laysReach_1 : decode cX12_laysReach 1 = .ok (.getfield 49, 3) := by decide +kernel
theorem dX12_laysReach_4 : decode cX12_laysReach 4 = .ok (.iload_n 1, 1) := by decide +kernel
theorem dX12_laysReach_5 : decode cX12_laysReach 5 = .ok (.iconst 0, 1) := by decide +kernel
theorem dX12_laysReach_6 : decode cX12_laysReach 6 = .ok (.iastore, 1) := by decide +kernel
theorem dX12_laysReach_7 : decode cX12_laysReach 7 = .ok (.aload_n 0, 1) := by decide +kernel
theorem dX12_laysReach_8 : decode cX12_laysReach 8 = .ok (.iload_n 1, 1) := by decide +kernel
theorem dX12_laysReach_9 : decode cX12_laysReach 9 = .ok (.lload_n 2, 1) := by decide +kernel
theorem dX12_laysReach_10 : decode cX12_laysReach 10 = .ok (.iconst 0, 1) := by decide +kernel
theorem dX12_laysReach_11 : decode cX12_laysReach 11 = .ok (.invokevirtual 336, 3) := by decide +kernel
theorem dX12_laysReach_14 : decode cX12_laysReach 14 = .ok (.iconst 0, 1) := by decide +kernel
theorem dX12_laysReach_15 : decode cX12_laysReach 15 = .ok (.istore 4, 2) := by decide +kernel
theorem dX12_laysReach_17 : decode cX12_laysReach 17 = .ok (.iload 4, 2) := by decide +kernel
theorem dX12_laysReach_19 : decode cX12_laysReach 19 = .ok (.aload_n 0, 1) := by decide +kernel
theorem dX12_laysReach_20 : decode cX12_laysReach 20 = .ok (.getfield 49, 3) := by decide +kernel
theorem dX12_laysReach_23 : decode cX12_laysReach 23 = .ok (.iload_n 1, 1) := by decide +kernel
theorem dX12_laysReach_24 : decode cX12_laysReach 24 = .ok (.iaload, 1) := by decide +kernel
theorem dX12_laysReach_25 : decode cX12_laysReach 25 = .ok (.if_icmp .ge 68, 3) := by decide +kernel
theorem dX12_laysReach_28 : decode cX12_laysReach 28 = .ok (.aload_n 0, 1) := by decide +kernel
theorem dX12_laysReach_29 : decode cX12_laysReach 29 = .ok (.getfield 43, 3) := by decide +kernel
theorem dX12_laysReach_32 : decode cX12_laysReach 32 = .ok (.sipush 200, 3) := by decide +kernel
theorem dX12_laysReach_35 : decode cX12_laysReach 35 = .ok (.iload_n 1, 1) := by decide +kernel
theorem dX12_laysReach_36 : decode cX12_laysReach 36 = .ok (.imul, 1) := by decide +kernel
theorem dX12_laysReach_37 : decode cX12_laysReach 37 = .ok (.iload 4, 2) := by decide +kernel
theorem dX12_laysReach_39 : decode cX12_laysReach 39 = .ok (.iadd, 1) := by decide +kernel
theorem dX12_laysReach_40 : decode cX12_laysReach 40 = .ok (.laload, 1) := by decide +kernel
theorem dX12_laysReach_41 : decode cX12_laysReach 41 = .ok (.lstore 5, 2) := by decide +kernel
theorem dX12_laysReach_43 : decode cX12_laysReach 43 = .ok (.iconst 0, 1) := by decide +kernel
theorem dX12_laysReach_44 : decode cX12_laysReach 44 = .ok (.istore 7, 2) := by decide +kernel
theorem dX12_laysReach_46 : decode cX12_laysReach 46 = .ok (.aload_n 0, 1) := by decide +kernel
theorem dX12_laysReach_47 : decode cX12_laysReach 47 = .ok (.lload 5, 2) := by decide +kernel
theorem dX12_laysReach_49 : decode cX12_laysReach 49 = .ok (.iload 7, 2) := by decide +kernel
theorem dX12_laysReach_51 : decode cX12_laysReach 51 = .ok (.invokevirtual 305, 3) := by decide +kernel
theorem dX12_laysReach_54 : decode cX12_laysReach 54 = .ok (.ifCond .eq 33, 3) := by decide +kernel
theorem dX12_laysReach_57 : decode cX12_laysReach 57 = .ok (.aload_n 0, 1) := by decide +kernel
theorem dX12_laysReach_58 : decode cX12_laysReach 58 = .ok (.iload_n 1, 1) := by decide +kernel
theorem dX12_laysReach_59 : decode cX12_laysReach 59 = .ok (.aload_n 0, 1) := by decide +kernel
theorem dX12_laysReach_60 : decode cX12_laysReach 60 = .ok (.getfield 301, 3) := by decide +kernel
theorem dX12_laysReach_63 : decode cX12_laysReach 63 = .ok (.aload_n 0, 1) := by decide +kernel
theorem dX12_laysReach_64 : decode cX12_laysReach 64 = .ok (.getfield 46, 3) := by decide +kernel
theorem dX12_laysReach_67 : decode cX12_laysReach 67 = .ok (.sipush 200, 3) := by decide +kernel
theorem dX12_laysReach_70 : decode cX12_laysReach 70 = .ok (.iload_n 1, 1) := by decide +kernel
theorem dX12_laysReach_71 : decode cX12_laysReach 71 = .ok (.imul, 1) := by decide +kernel
theorem dX12_laysReach_72 : decode cX12_laysReach 72 = .ok (.iload 4, 2) := by decide +kernel
theorem dX12_laysReach_74 : decode cX12_laysReach 74 = .ok (.iadd, 1) := by decide +kernel
theorem dX12_laysReach_75 : decode cX12_laysReach 75 = .ok (.iaload, 1) := by decide +kernel
theorem dX12_laysReach_76 : decode cX12_laysReach 76 = .ok (.iconst 1, 1) := by decide +kernel
theorem dX12_laysReach_77 : decode cX12_laysReach 77 = .ok (.iadd, 1) := by decide +kernel
theorem dX12_laysReach_78 : decode cX12_laysReach 78 = .ok (.invokevirtual 336, 3) := by decide +kernel
theorem dX12_laysReach_81 : decode cX12_laysReach 81 = .ok (.iinc 7 1, 3) := by decide +kernel
theorem dX12_laysReach_84 : decode cX12_laysReach 84 = .ok (.goto (-38), 3) := by decide +kernel
theorem dX12_laysReach_87 : decode cX12_laysReach 87 = .ok (.iinc 4 1, 3) := by decide +kernel
theorem dX12_laysReach_90 : decode cX12_laysReach 90 = .ok (.goto (-73), 3) := by decide +kernel
theorem dX12_laysReach_93 : decode cX12_laysReach 93 = .ok (.return_, 1) := by decide +kernel
abbrev rmX12_laysReach : Room := { frames := 5, cells := 0, slots := 0, locals := 129 }
noncomputable def fLX12_laysReach_46 (x0 : Nat) (x1 : Int32) (x4 : Int32) (x5 : Int64) (a : Int32 × St) : Option ((Int32 × St) ⊕ (St)) :=
(isO a.2 x0 11).bind fun _ =>
(fX12_finds a.2 x0 x5 a.1).bind fun w51 =>
if w51.1 = 0 then
(some (Sum.inr w51.2))
else
((gL w51.2 x0 11 18).bind fun v60 =>
(gR w51.2 x0 11 26).bind fun v64 =>
(aI w51.2 v64 0 ((200 * x1) + x4)).bind fun v75 =>
(isO w51.2 x0 11).bind fun _ =>
(fX12_reaches w51.2 x0 x1 v60 (v75 + 1)).bind fun w78 =>
xlet (a.1 + 1) fun v81 =>
some (Sum.inl (v81, w78)))
set_option maxHeartbeats 4000000 in
set_option maxRecDepth 100000 in
theorem lpX12_laysReach_46 {X : xX} {x0 : Nat} {x1 : Int32} {x4 : Int32} {x5 : Int64}  {a0 : Int32 × St} {b : St} (C : Ok X cX12_laysReach 8 RX12 rmX12_laysReach none) (hb : iterP (fLX12_laysReach_46 x0 x1 x4 x5) a0 = some b) (hy0 : ∀ s, b = s → V X (0, 0) s 87 [(0, .ref (x0)), (1, .int (x1)), (4, .int (x4))] []) : V X (0, 0) a0.2 46 [(0, .ref (x0)), (1, .int (x1)), (4, .int (x4)), (5, .long (x5)), (7, .int (a0.1))] [] := by
  obtain ⟨n, hn⟩ := iterP_some hb
  refine x_loop (P := fun a => V X (0, 0) a.2 46 [(0, .ref (x0)), (1, .int (x1)), (4, .int (x4)), (5, .long (x5)), (7, .int (a.1))] []) ?_ n a0 hn
  intro a c hf hK hxx
  have hx0 : ∀ s, c = Sum.inr s → V X (0, 0) s 87 [(0, .ref (x0)), (1, .int (x1)), (4, .int (x4))] [] := fun s e => hy0 s (hxx _ e).symm
  unfold fLX12_laysReach_46 at hf
  refine x_aload_n C dX12_laysReach_46 47 rfl 0 rfl rfl ?_
  refine x_lload C dX12_laysReach_47 49 rfl 3 rfl ?_
  refine x_iload C dX12_laysReach_49 51 rfl 4 rfl ?_
  obtain ⟨o51, ho51, hf⟩ := x_bind hf
  obtain ⟨w51, hw51, hf⟩ := x_bind hf
  refine x_callVi C dX12_laysReach_51 54 rfl ho51 cl11.1 rfl (cX12_findsc hw51) kX12_finds kvX12_finds w1810 ⟨rfl, rfl⟩ ⟨Nat.le_of_ble_eq_true rfl, Nat.le_of_ble_eq_true rfl⟩ ⟨Nat.zero_le _, Nat.zero_le _⟩ rfl rfl (Nat.le_of_ble_eq_true rfl) ?_
  refine x_if_eq C dX12_laysReach_54 87 (by decide) 57 rfl (fun hc => ?_) (fun hc => ?_)
  · have hf := (if_pos hc).symm.trans hf
    refine x_lv [0, 1, 2] (lv' := [(0, .ref (x0)), (1, .int (x1)), (4, .int (x4))]) rfl ?_
    exact hx0 _ (Option.some.inj hf).symm
  · have hf := (if_neg hc).symm.trans hf
    refine x_aload_n C dX12_laysReach_57 58 rfl 0 rfl rfl ?_
    refine x_iload_n C dX12_laysReach_58 59 rfl 1 rfl rfl ?_
    refine x_aload_n C dX12_laysReach_59 60 rfl 0 rfl rfl ?_
    obtain ⟨v60, hv60, hf⟩ := x_bind hf
    refine x_getL C dX12_laysReach_60 63 rfl hv60 cl11 rfl w1461 ?_
    refine x_aload_n C dX12_laysReach_63 64 rfl 0 rfl rfl ?_
    obtain ⟨v64, hv64, hf⟩ := x_bind hf
    refine x_getR C dX12_laysReach_64 67 rfl hv64 cl11 rfl w1469 ?_
    refine x_sipush C dX12_laysReach_67 70 rfl 200 (by decide) ?_
    refine x_iload_n C dX12_laysReach_70 71 rfl 1 rfl rfl ?_
    refine x_imul C dX12_laysReach_71 72 rfl ?_
    refine x_iload C dX12_laysReach_72 74 rfl 2 rfl ?_
    refine x_iadd C dX12_laysReach_74 75 rfl ?_
    obtain ⟨v75, hv75, hf⟩ := x_bind hf
    refine x_iaload C dX12_laysReach_75 76 rfl hv75 ?_
    refine x_iconst C dX12_laysReach_76 77 rfl 1 (by decide) ?_
    refine x_iadd C dX12_laysReach_77 78 rfl ?_
    obtain ⟨o78, ho78, hf⟩ := x_bind hf
    obtain ⟨w78, hw78, hf⟩ := x_bind hf
    refine x_callVv C dX12_laysReach_78 81 rfl ho78 cl11.1 rfl (cX12_reachesc hw78) kX12_reaches kvX12_reaches w1956 ⟨rfl, rfl⟩ ⟨Nat.le_of_ble_eq_true rfl, Nat.le_of_ble_eq_true rfl⟩ ⟨Nat.zero_le _, Nat.zero_le _⟩ rfl rfl (Nat.le_of_ble_eq_true rfl) ?_
    obtain ⟨v81, ev81, hf⟩ := xlet_some hf
    refine x_iinc C dX12_laysReach_81 84 rfl 4 rfl v81 ev81 rfl [(7, .int (v81)), (0, .ref (x0)), (1, .int (x1)), (4, .int (x4)), (5, .long (x5))] rfl ?_
    refine x_goto C dX12_laysReach_84 46 (by decide) ?_
    refine x_lv [1, 2, 3, 4, 0] (lv' := [(0, .ref (x0)), (1, .int (x1)), (4, .int (x4)), (5, .long (x5)), (7, .int (v81))]) rfl ?_
    exact hK _ (Option.some.inj hf).symm
noncomputable def fLX12_laysReach_17 (x0 : Nat) (x1 : Int32) (a : Int32 × St) : Option ((Int32 × St) ⊕ (St)) :=
(gR a.2 x0 11 27).bind fun v20 =>
(aI a.2 v20 0 x1).bind fun v24 =>
if v24 ≤ a.1 then
(some (Sum.inr a.2))
else
((gR a.2 x0 11 25).bind fun v29 =>
(aL a.2 v29 ((200 * x1) + a.1)).bind fun v40 =>
(iterP (fLX12_laysReach_46 x0 x1 a.1 v40) (0, a.2)).bind fun b46 =>
xlet (a.1 + 1) fun v87 =>
some (Sum.inl (v87, b46)))
set_option maxHeartbeats 4000000 in
set_option maxRecDepth 100000 in
theorem lpX12_laysReach_17 {X : xX} {x0 : Nat} {x1 : Int32}  {a0 : Int32 × St} {b : St} (C : Ok X cX12_laysReach 8 RX12 rmX12_laysReach none) (hb : iterP (fLX12_laysReach_17 x0 x1) a0 = some b) (hy0 : ∀ s, b = s → V X (0, 0) s 93 [] []) : V X (0, 0) a0.2 17 [(0, .ref (x0)), (1, .int (x1)), (4, .int (a0.1))] [] := by
  obtain ⟨n, hn⟩ := iterP_some hb
  refine x_loop (P := fun a => V X (0, 0) a.2 17 [(0, .ref (x0)), (1, .int (x1)), (4, .int (a.1))] []) ?_ n a0 hn
  intro a c hf hK hxx
  have hx0 : ∀ s, c = Sum.inr s → V X (0, 0) s 93 [] [] := fun s e => hy0 s (hxx _ e).symm
  unfold fLX12_laysReach_17 at hf
  refine x_iload C dX12_laysReach_17 19 rfl 2 rfl ?_
  refine x_aload_n C dX12_laysReach_19 20 rfl 0 rfl rfl ?_
  obtain ⟨v20, hv20, hf⟩ := x_bind hf
  refine x_getR C dX12_laysReach_20 23 rfl hv20 cl11 rfl w1470 ?_
  refine x_iload_n C dX12_laysReach_23 24 rfl 1 rfl rfl ?_
  obtain ⟨v24, hv24, hf⟩ := x_bind hf
  refine x_iaload C dX12_laysReach_24 25 rfl hv24 ?_
  refine x_icmp_ge C dX12_laysReach_25 93 (by decide) 28 rfl (fun hc => ?_) (fun hc => ?_)
  · have hf := (if_pos hc).symm.trans hf
    refine x_lv [] (lv' := []) rfl ?_
    exact hx0 _ (Option.some.inj hf).symm
  · have hf := (if_neg hc).symm.trans hf
    refine x_aload_n C dX12_laysReach_28 29 rfl 0 rfl rfl ?_
    obtain ⟨v29, hv29, hf⟩ := x_bind hf
    refine x_getR C dX12_laysReach_29 32 rfl hv29 cl11 rfl w1468 ?_
    refine x_sipush C dX12_laysReach_32 35 rfl 200 (by decide) ?_
    refine x_iload_n C dX12_laysReach_35 36 rfl 1 rfl rfl ?_
    refine x_imul C dX12_laysReach_36 37 rfl ?_
    refine x_iload C dX12_laysReach_37 39 rfl 2 rfl ?_
    refine x_iadd C dX12_laysReach_39 40 rfl ?_
    obtain ⟨v40, hv40, hf⟩ := x_bind hf
    refine x_laload C dX12_laysReach_40 41 rfl hv40 ?_
    refine x_lstore C dX12_laysReach_41 43 rfl rfl [(5, .long (v40)), (0, .ref (x0)), (1, .int (x1)), (4, .int (a.1))] rfl ?_
    refine x_iconst C dX12_laysReach_43 44 rfl 0 (by decide) ?_
    refine x_istore C dX12_laysReach_44 46 rfl rfl [(7, .int (0)), (5, .long (v40)), (0, .ref (x0)), (1, .int (x1)), (4, .int (a.1))] rfl ?_
    obtain ⟨b46, hb46, hf⟩ := x_bind hf
    refine x_lv [2, 3, 4, 1, 0] (lv' := [(0, .ref (x0)), (1, .int (x1)), (4, .int (a.1)), (5, .long (v40)), (7, .int (0))]) rfl ?_
    refine lpX12_laysReach_46 C hb46 (fun s46 e46 => ?_)
    subst e46
    obtain ⟨v87, ev87, hf⟩ := xlet_some hf
    refine x_iinc C dX12_laysReach_87 90 rfl 2 rfl v87 ev87 rfl [(4, .int (v87)), (0, .ref (x0)), (1, .int (x1))] rfl ?_
    refine x_goto C dX12_laysReach_90 17 (by decide) ?_
    refine x_lv [1, 2, 0] (lv' := [(0, .ref (x0)), (1, .int (x1)), (4, .int (v87))]) rfl ?_
    exact hK _ (Option.some.inj hf).symm
noncomputable def fX12_laysReach (σ : St) (x0 : Nat) (x1 : Int32) (x2 : Int64) : Option (St) :=
(gR σ x0 11 27).bind fun v1 =>
(sI σ v1 x1 0).bind fun σ6 =>
(isO σ6 x0 11).bind fun _ =>
(fX12_reaches σ6 x0 x1 x2 0).bind fun w11 =>
(iterP (fLX12_laysReach_17 x0 x1) (0, w11)).bind fun b17 =>
some b17
set_option maxHeartbeats 4000000 in
set_option maxRecDepth 100000 in
theorem cX12_laysReachc {l : Launch} {G : xG} {A : Nat → Prop} {σ : St} {x0 : Nat} {x1 : Int32} {x2 : Int64} {c : St} (hf : fX12_laysReach σ x0 x1 x2 = some c) : Con l yX12_laysReach (xws yX12_laysReach cX12_laysReach 8 none) rmX12_laysReach [.ref (x0), .int (x1), .long (x2)] G A σ none c := by
  refine x_start rfl (Nat.le_of_ble_eq_true rfl) (fun X _ _ _ C hE0 => ?_)
  have hE : ∀ r, c = r → xE1 X none r := fun r e => e ▸ hE0
  show V X (0, 0) σ 0 [(0, .ref (x0)), (1, .int (x1)), (2, .long (x2))] []
  unfold fX12_laysReach at hf
  refine x_aload_n C dX12_laysReach_0 1 rfl 0 rfl rfl ?_
  obtain ⟨v1, hv1, hf⟩ := x_bind hf
  refine x_getR C dX12_laysReach_1 4 rfl hv1 cl11 rfl w1470 ?_
  refine x_iload_n C dX12_laysReach_4 5 rfl 1 rfl rfl ?_
  refine x_iconst C dX12_laysReach_5 6 rfl 0 (by decide) ?_
  obtain ⟨σ6, hσ6, hf⟩ := x_bind hf
  refine x_iastore C dX12_laysReach_6 7 rfl hσ6 ?_
  refine x_aload_n C dX12_laysReach_7 8 rfl 0 rfl rfl ?_
  refine x_iload_n C dX12_laysReach_8 9 rfl 1 rfl rfl ?_
  refine x_lload_n C dX12_laysReach_9 10 rfl 2 rfl rfl ?_
  refine x_iconst C dX12_laysReach_10 11 rfl 0 (by decide) ?_
  obtain ⟨o11, ho11, hf⟩ := x_bind hf
  obtain ⟨w11, hw11, hf⟩ := x_bind hf
  refine x_callVv C dX12_laysReach_11 14 rfl ho11 cl11.1 rfl (cX12_reachesc hw11) kX12_reaches kvX12_reaches w1956 ⟨rfl, rfl⟩ ⟨Nat.le_of_ble_eq_true rfl, Nat.le_of_ble_eq_true rfl⟩ ⟨Nat.zero_le _, Nat.zero_le _⟩ rfl rfl (Nat.le_of_ble_eq_true rfl) ?_
  refine x_iconst C dX12_laysReach_14 15 rfl 0 (by decide) ?_
  refine x_istore C dX12_laysReach_15 17 rfl rfl [(4, .int (0)), (0, .ref (x0)), (1, .int (x1)), (2, .long (x2))] rfl ?_
  obtain ⟨b17, hb17, hf⟩ := x_bind hf
  refine x_lv [1, 2, 0] (lv' := [(0, .ref (x0)), (1, .int (x1)), (4, .int (0))]) rfl ?_
  refine lpX12_laysReach_17 C hb17 (fun s17 e17 => ?_)
  subst e17
  exact x_vret C (hE _ (Option.some.inj hf).symm) dX12_laysReach_93
theorem dX12_isReached_0 : decode cX12_isReached 0 = .ok (.iload_n 1, 1) := by decide +kernel
theorem dX12_isReached_1 : decode cX12_isReached 1 = .ok (.invokestatic 452, 3) := by decide +kernel
theorem dX12_isReached_4 : decode cX12_isReached 4 = .ok (.ifCond .ne 5, 3) := by decide +kernel
theorem dX12_isReached_7 : decode cX12_isReached 7 = .ok (.iconst 0, 1) := by decide +kernel
theorem dX12_isReached_8 : decode cX12_isReached 8 = .ok (.ireturn, 1) := by decide +kernel
theorem dX12_isReached_9 : decode cX12_isReached 9 = .ok (.aload_n 0, 1) := by decide +kernel
theorem dX12_isReached_10 : decode cX12_isReached 10 = .ok (.iconst 0, 1) := by decide +kernel
theorem dX12_isReached_11 : decode cX12_isReached 11 = .ok (.aload_n 0, 1) := by decide +kernel
theorem dX12_isReached_12 : decode cX12_isReached 12 = .ok (.iload_n 1, 1) := by decide +kernel
theorem dX12_isReached_13 : decode cX12_isReached 13 = .ok (.invokevirtual 402, 3) := by decide +kernel
theorem dX12_isReached_16 : decode cX12_isReached 16 = .ok (.invokevirtual 459, 3) := by decide +kernel
theorem dX12_isReached_19 : decode cX12_isReached 19 = .ok (.iload_n 2, 1) := by decide +kernel
theorem dX12_isReached_20 : decode cX12_isReached 20 = .ok (.i2l, 1) := by decide +kernel
theorem dX12_isReached_21 : decode cX12_isReached 21 = .ok (.lconst 0, 1) := by decide +kernel
theorem dX12_isReached_22 : decode cX12_isReached 22 = .ok (.aload_n 0, 1) := by decide +kernel
theorem dX12_isReached_23 : decode cX12_isReached 23 = .ok (.getfield 49, 3) := by decide +kernel
theorem dX12_isReached_26 : decode cX12_isReached 26 = .ok (.iconst 0, 1) := by decide +kernel
theorem dX12_isReached_27 : decode cX12_isReached 27 = .ok (.iaload, 1) := by decide +kernel
theorem dX12_isReached_28 : decode cX12_isReached 28 = .ok (.iconst 1, 1) := by decide +kernel
theorem dX12_isReached_29 : decode cX12_isReached 29 = .ok (.isub, 1) := by decide +kernel
theorem dX12_isReached_30 : decode cX12_isReached 30 = .ok (.i2l, 1) := by decide +kernel
theorem dX12_isReached_31 : decode cX12_isReached 31 = .ok (.invokestatic 130, 3) := by decide +kernel
theorem dX12_isReached_34 : decode cX12_isReached 34 = .ok (.ireturn, 1) := by decide +kernel
abbrev rmX12_isReached : Room := { frames := 6, cells := 0, slots := 0, locals := 156 }
noncomputable def fX12_isReached (σ : St) (x0 : Nat) (x1 : Int32) (x2 : Int32) : Option ((Int32 × St)) :=
(fX12_isPlace x1).bind fun w1 =>
if w1 = 0 then
(some (0, σ))
else
((isO σ x0 11).bind fun _ =>
(fX12_wordAt σ x0 x1).bind fun w13 =>
(isO σ x0 11).bind fun _ =>
(fX12_laysReach σ x0 0 w13).bind fun w16 =>
(gR w16 x0 11 27).bind fun v23 =>
(aI w16 v23 0 0).bind fun v27 =>
(fX12_isIn x2.toInt64 0 ((v27 - 1).toInt64)).bind fun w31 =>
(zok w31).bind fun z34 =>
some (z34, w16))
set_option maxHeartbeats 4000000 in
set_option maxRecDepth 100000 in
theorem cX12_isReachedc {l : Launch} {G : xG} {A : Nat → Prop} {σ : St} {x0 : Nat} {x1 : Int32} {x2 : Int32} {c : (Int32 × St)} (hf : fX12_isReached σ x0 x1 x2 = some c) : Con l yX12_isReached (xws yX12_isReached cX12_isReached 3 (some .boolean)) rmX12_isReached [.ref (x0), .int (x1), .int (x2)] G A σ (some (.int c.1)) c.2 := by
  refine x_start rfl (Nat.le_of_ble_eq_true rfl) (fun X _ _ _ C hE0 => ?_)
  have hE : ∀ r, c = r → xE1 X (some (.int r.1)) r.2 := fun r e => e ▸ hE0
  show V X (0, 0) σ 0 [(0, .ref (x0)), (1, .int (x1)), (2, .int (x2))] []
  unfold fX12_isReached at hf
  refine x_iload_n C dX12_isReached_0 1 rfl 1 rfl rfl ?_
  obtain ⟨w1, hw1, hf⟩ := x_bind hf
  refine x_callSi C dX12_isReached_1 4 rfl (cX12_isPlacec hw1) kX12_isPlace ksX12_isPlace w1942 ⟨rfl, rfl⟩ ⟨Nat.le_of_ble_eq_true rfl, Nat.le_of_ble_eq_true rfl⟩ ⟨Nat.zero_le _, Nat.zero_le _⟩ rfl rfl (Nat.le_of_ble_eq_true rfl) ?_
  refine x_if_ne C dX12_isReached_4 9 (by decide) 7 rfl (fun hc => ?_) (fun hc => ?_)
  · have hf := (if_neg hc).symm.trans hf
    refine x_aload_n C dX12_isReached_9 10 rfl 0 rfl rfl ?_
    refine x_iconst C dX12_isReached_10 11 rfl 0 (by decide) ?_
    refine x_aload_n C dX12_isReached_11 12 rfl 0 rfl rfl ?_
    refine x_iload_n C dX12_isReached_12 13 rfl 1 rfl rfl ?_
    obtain ⟨o13, ho13, hf⟩ := x_bind hf
    obtain ⟨w13, hw13, hf⟩ := x_bind hf
    refine x_callVl C dX12_isReached_13 16 rfl ho13 cl11.1 rfl (cX12_wordAtc hw13) kX12_wordAt kvX12_wordAt w1845 ⟨rfl, rfl⟩ ⟨Nat.le_of_ble_eq_true rfl, Nat.le_of_ble_eq_true rfl⟩ ⟨Nat.zero_le _, Nat.zero_le _⟩ rfl rfl (Nat.le_of_ble_eq_true rfl) ?_
    obtain ⟨o16, ho16, hf⟩ := x_bind hf
    obtain ⟨w16, hw16, hf⟩ := x_bind hf
    refine x_callVv C dX12_isReached_16 19 rfl ho16 cl11.1 rfl (cX12_laysReachc hw16) kX12_laysReach kvX12_laysReach w1952 ⟨rfl, rfl⟩ ⟨Nat.le_of_ble_eq_true rfl, Nat.le_of_ble_eq_true rfl⟩ ⟨Nat.zero_le _, Nat.zero_le _⟩ rfl rfl (Nat.le_of_ble_eq_true rfl) ?_
    refine x_iload_n C dX12_isReached_19 20 rfl 2 rfl rfl ?_
    refine x_i2l C dX12_isReached_20 21 rfl ?_
    refine x_lconst C dX12_isReached_21 22 rfl 0 (by decide) ?_
    refine x_aload_n C dX12_isReached_22 23 rfl 0 rfl rfl ?_
    obtain ⟨v23, hv23, hf⟩ := x_bind hf
    refine x_getR C dX12_isReached_23 26 rfl hv23 cl11 rfl w1470 ?_
    refine x_iconst C dX12_isReached_26 27 rfl 0 (by decide) ?_
    obtain ⟨v27, hv27, hf⟩ := x_bind hf
    refine x_iaload C dX12_isReached_27 28 rfl hv27 ?_
    refine x_iconst C dX12_isReached_28 29 rfl 1 (by decide) ?_
    refine x_isub C dX12_isReached_29 30 rfl ?_
    refine x_i2l C dX12_isReached_30 31 rfl ?_
    obtain ⟨w31, hw31, hf⟩ := x_bind hf
    refine x_callSi C dX12_isReached_31 34 rfl (cX12_isInc hw31) kX12_isIn ksX12_isIn w1645 ⟨rfl, rfl⟩ ⟨Nat.le_of_ble_eq_true rfl, Nat.le_of_ble_eq_true rfl⟩ ⟨Nat.zero_le _, Nat.zero_le _⟩ rfl rfl (Nat.le_of_ble_eq_true rfl) ?_
    obtain ⟨z34, hz34, hf⟩ := x_bind hf
    refine x_topi (zok_nar hz34).1 ?_
    exact x_zret C (zok_w hz34) (hE _ (Option.some.inj hf).symm) dX12_isReached_34
  · have hf := (if_pos hc).symm.trans hf
    refine x_iconst C dX12_isReached_7 8 rfl 0 (by decide) ?_
    exact x_zret C rfl (hE _ (Option.some.inj hf).symm) dX12_isReached_8
theorem dX12_came_0 : decode cX12_came 0 = .ok (.aload_n 0, 1) := by decide +kernel
theorem dX12_came_1 : decode cX12_came 1 = .ok (.iconst 0, 1) := by decide +kernel
theorem dX12_came_2 : decode cX12_came 2 = .ok (.putfield 1, 3) := by decide +kernel
theorem dX12_came_5 : decode cX12_came 5 = .ok (.aload_n 0, 1) := by decide +kernel
theorem dX12_came_6 : decode cX12_came 6 = .ok (.aload_n 0, 1) := by decide +kernel
theorem dX12_came_7 : decode cX12_came 7 = .ok (.iload_n 1, 1) := by decide +kernel
theorem dX12_came_8 : decode cX12_came 8 = .ok (.iload_n 2, 1) := by decide +kernel
theorem dX12_came_9 : decode cX12_came 9 = .ok (.invokevirtual 489, 3) := by decide +kernel
theorem dX12_came_12 : decode cX12_came 12 = .ok (.iconst 1, 1) := by decide +kernel
theorem dX12_came_13 : decode cX12_came 13 = .ok (.invokevirtual 265, 3) := by decide +kernel
theorem dX12_came_16 : decode cX12_came 16 = .ok (.ifCond .eq 12, 3) := by decide +kernel
theorem dX12_came_19 : decode cX12_came 19 = .ok (.aload_n 0, 1) := by decide +kernel
theorem dX12_came_20 : decode cX12_came 20 = .ok (.getfield 46, 3) := by decide +kernel
theorem dX12_came_23 : decode cX12_came 23 = .ok (.iload_n 2, 1) := by decide +kernel
theorem dX12_came_24 : decode cX12_came 24 = .ok (.iaload, 1) := by decide +kernel
theorem dX12_came_25 : decode cX12_came 25 = .ok (.goto 4, 3) := by decide +kernel
theorem dX12_came_28 : decode cX12_came 28 = .ok (.iconst 0, 1) := by decide +kernel
theorem dX12_came_29 : decode cX12_came 29 = .ok (.ireturn, 1) := by decide +kernel
abbrev rmX12_came : Room := { frames := 7, cells := 0, slots := 0, locals := 178 }
noncomputable def fX12_came (σ : St) (x0 : Nat) (x1 : Int32) (x2 : Int32) : Option ((Int32 × St)) :=
(wrF σ x0 11 0 (.int (0))).bind fun σ2 =>
(isO σ2 x0 11).bind fun _ =>
(fX12_isReached σ2 x0 x1 x2).bind fun w9 =>
(isO w9.2 x0 11).bind fun _ =>
(fX12_right w9.2 x0 w9.1 1).bind fun w13 =>
if w13.1 = 0 then
(some (0, w13.2))
else
((gR w13.2 x0 11 26).bind fun v20 =>
(aI w13.2 v20 0 x2).bind fun v24 =>
some (v24, w13.2))
set_option maxHeartbeats 4000000 in
set_option maxRecDepth 100000 in
theorem cX12_camec {l : Launch} {G : xG} {A : Nat → Prop} {σ : St} {x0 : Nat} {x1 : Int32} {x2 : Int32} {c : (Int32 × St)} (hf : fX12_came σ x0 x1 x2 = some c) : Con l yX12_came (xws yX12_came cX12_came 3 (some .int)) rmX12_came [.ref (x0), .int (x1), .int (x2)] G A σ (some (.int c.1)) c.2 := by
  refine x_start rfl (Nat.le_of_ble_eq_true rfl) (fun X _ _ _ C hE0 => ?_)
  have hE : ∀ r, c = r → xE1 X (some (.int r.1)) r.2 := fun r e => e ▸ hE0
  show V X (0, 0) σ 0 [(0, .ref (x0)), (1, .int (x1)), (2, .int (x2))] []
  unfold fX12_came at hf
  refine x_aload_n C dX12_came_0 1 rfl 0 rfl rfl ?_
  refine x_iconst C dX12_came_1 2 rfl 0 (by decide) ?_
  obtain ⟨σ2, hσ2, hf⟩ := x_bind hf
  refine x_putX C dX12_came_2 5 rfl hσ2 cl11 rfl w1443 rfl rfl rfl ?_
  refine x_aload_n C dX12_came_5 6 rfl 0 rfl rfl ?_
  refine x_aload_n C dX12_came_6 7 rfl 0 rfl rfl ?_
  refine x_iload_n C dX12_came_7 8 rfl 1 rfl rfl ?_
  refine x_iload_n C dX12_came_8 9 rfl 2 rfl rfl ?_
  obtain ⟨o9, ho9, hf⟩ := x_bind hf
  obtain ⟨w9, hw9, hf⟩ := x_bind hf
  refine x_callVi C dX12_came_9 12 rfl ho9 cl11.1 rfl (cX12_isReachedc hw9) kX12_isReached kvX12_isReached w2057 ⟨rfl, rfl⟩ ⟨Nat.le_of_ble_eq_true rfl, Nat.le_of_ble_eq_true rfl⟩ ⟨Nat.zero_le _, Nat.zero_le _⟩ rfl rfl (Nat.le_of_ble_eq_true rfl) ?_
  refine x_iconst C dX12_came_12 13 rfl 1 (by decide) ?_
  obtain ⟨o13, ho13, hf⟩ := x_bind hf
  obtain ⟨w13, hw13, hf⟩ := x_bind hf
  refine x_callVi C dX12_came_13 16 rfl ho13 cl11.1 rfl (cX12_rightc hw13) kX12_right kvX12_right w1648 ⟨rfl, rfl⟩ ⟨Nat.le_of_ble_eq_true rfl, Nat.le_of_ble_eq_true rfl⟩ ⟨Nat.zero_le _, Nat.zero_le _⟩ rfl rfl (Nat.le_of_ble_eq_true rfl) ?_
  refine x_if_eq C dX12_came_16 28 (by decide) 19 rfl (fun hc => ?_) (fun hc => ?_)
  · have hf := (if_pos hc).symm.trans hf
    refine x_iconst C dX12_came_28 29 rfl 0 (by decide) ?_
    exact x_iret C (hE _ (Option.some.inj hf).symm) dX12_came_29
  · have hf := (if_neg hc).symm.trans hf
    refine x_aload_n C dX12_came_19 20 rfl 0 rfl rfl ?_
    obtain ⟨v20, hv20, hf⟩ := x_bind hf
    refine x_getR C dX12_came_20 23 rfl hv20 cl11 rfl w1469 ?_
    refine x_iload_n C dX12_came_23 24 rfl 2 rfl rfl ?_
    obtain ⟨v24, hv24, hf⟩ := x_bind hf
    refine x_iaload C dX12_came_24 25 rfl hv24 ?_
    refine x_goto C dX12_came_25 29 (by decide) ?_
    exact x_iret C (hE _ (Option.some.inj hf).symm) dX12_came_29
theorem dX12_isMade_0 : decode cX12_isMade 0 = .ok (.iload_n 1, 1) := by decide +kernel
theorem dX12_isMade_1 : decode cX12_isMade 1 = .ok (.invokestatic 452, 3) := by decide +kernel
theorem dX12_isMade_4 : decode cX12_isMade 4 = .ok (.ifCond .eq 24, 3) := by decide +kernel
theorem dX12_isMade_7 : decode cX12_isMade 7 = .ok (.iload_n 2, 1) := by decide +kernel
theorem dX12_isMade_8 : decode cX12_isMade 8 = .ok (.i2l, 1) := by decide +kernel
theorem dX12_isMade_9 : decode cX12_isMade 9 = .ok (.lconst 0, 1) := by decide +kernel
theorem dX12_isMade_10 : decode cX12_isMade 10 = .ok (.aload_n 0, 1) := by decide +kernel
theorem dX12_isMade_11 : decode cX12_isMade 11 = .ok (.iload_n 1, 1) := by decide +kernel
theorem dX12_isMade_12 : decode cX12_isMade 12 = .ok (.invokevirtual 471, 3) := by decide +kernel
theorem dX12_isMade_15 : decode cX12_isMade 15 = .ok (.iconst 1, 1) := by decide +kernel
theorem dX12_isMade_16 : decode cX12_isMade 16 = .ok (.isub, 1) := by decide +kernel
theorem dX12_isMade_17 : decode cX12_isMade 17 = .ok (.i2l, 1) := by decide +kernel
theorem dX12_isMade_18 : decode cX12_isMade 18 = .ok (.invokestatic 130, 3) := by decide +kernel
theorem dX12_isMade_21 : decode cX12_isMade 21 = .ok (.ifCond .eq 7, 3) := by decide +kernel
theorem dX12_isMade_24 : decode cX12_isMade 24 = .ok (.iconst 1, 1) := by decide +kernel
theorem dX12_isMade_25 : decode cX12_isMade 25 = .ok (.goto 4, 3) := by decide +kernel
theorem dX12_isMade_28 : decode cX12_isMade 28 = .ok (.iconst 0, 1) := by decide +kernel
theorem dX12_isMade_29 : decode cX12_isMade 29 = .ok (.ireturn, 1) := by decide +kernel
abbrev rmX12_isMade : Room := { frames := 2, cells := 0, slots := 0, locals := 45 }
noncomputable def fX12_isMade (σ : St) (x0 : Nat) (x1 : Int32) (x2 : Int32) : Option (Int32) :=
(fX12_isPlace x1).bind fun w1 =>
if w1 = 0 then
(some 0)
else
((isO σ x0 11).bind fun _ =>
(fX12_stepsOf σ x0 x1).bind fun w12 =>
(fX12_isIn x2.toInt64 0 ((w12 - 1).toInt64)).bind fun w18 =>
if w18 = 0 then
(some 0)
else
(some 1))
set_option maxHeartbeats 4000000 in
set_option maxRecDepth 100000 in
theorem cX12_isMadec {l : Launch} {G : xG} {A : Nat → Prop} {σ : St} {x0 : Nat} {x1 : Int32} {x2 : Int32} {c : Int32} (hf : fX12_isMade σ x0 x1 x2 = some c) : Con l yX12_isMade (xws yX12_isMade cX12_isMade 3 (some .boolean)) rmX12_isMade [.ref (x0), .int (x1), .int (x2)] G A σ (some (.int c)) σ := by
  refine x_start rfl (Nat.le_of_ble_eq_true rfl) (fun X _ _ _ C hE0 => ?_)
  have hE : ∀ r, c = r → xE1 X (some (.int r)) σ := fun r e => e ▸ hE0
  show V X (0, 0) σ 0 [(0, .ref (x0)), (1, .int (x1)), (2, .int (x2))] []
  unfold fX12_isMade at hf
  refine x_iload_n C dX12_isMade_0 1 rfl 1 rfl rfl ?_
  obtain ⟨w1, hw1, hf⟩ := x_bind hf
  refine x_callSi C dX12_isMade_1 4 rfl (cX12_isPlacec hw1) kX12_isPlace ksX12_isPlace w1942 ⟨rfl, rfl⟩ ⟨Nat.le_of_ble_eq_true rfl, Nat.le_of_ble_eq_true rfl⟩ ⟨Nat.zero_le _, Nat.zero_le _⟩ rfl rfl (Nat.le_of_ble_eq_true rfl) ?_
  refine x_if_eq C dX12_isMade_4 28 (by decide) 7 rfl (fun hc => ?_) (fun hc => ?_)
  · have hf := (if_pos hc).symm.trans hf
    refine x_iconst C dX12_isMade_28 29 rfl 0 (by decide) ?_
    exact x_zret C rfl (hE _ (Option.some.inj hf).symm) dX12_isMade_29
  · have hf := (if_neg hc).symm.trans hf
    refine x_iload_n C dX12_isMade_7 8 rfl 2 rfl rfl ?_
    refine x_i2l C dX12_isMade_8 9 rfl ?_
    refine x_lconst C dX12_isMade_9 10 rfl 0 (by decide) ?_
    refine x_aload_n C dX12_isMade_10 11 rfl 0 rfl rfl ?_
    refine x_iload_n C dX12_isMade_11 12 rfl 1 rfl rfl ?_
    obtain ⟨o12, ho12, hf⟩ := x_bind hf
    obtain ⟨w12, hw12, hf⟩ := x_bind hf
    refine x_callVi C dX12_isMade_12 15 rfl ho12 cl11.1 rfl (cX12_stepsOfc hw12) kX12_stepsOf kvX12_stepsOf w1980 ⟨rfl, rfl⟩ ⟨Nat.le_of_ble_eq_true rfl, Nat.le_of_ble_eq_true rfl⟩ ⟨Nat.zero_le _, Nat.zero_le _⟩ rfl rfl (Nat.le_of_ble_eq_true rfl) ?_
    refine x_iconst C dX12_isMade_15 16 rfl 1 (by decide) ?_
    refine x_isub C dX12_isMade_16 17 rfl ?_
    refine x_i2l C dX12_isMade_17 18 rfl ?_
    obtain ⟨w18, hw18, hf⟩ := x_bind hf
    refine x_callSi C dX12_isMade_18 21 rfl (cX12_isInc hw18) kX12_isIn ksX12_isIn w1645 ⟨rfl, rfl⟩ ⟨Nat.le_of_ble_eq_true rfl, Nat.le_of_ble_eq_true rfl⟩ ⟨Nat.zero_le _, Nat.zero_le _⟩ rfl rfl (Nat.le_of_ble_eq_true rfl) ?_
    refine x_if_eq C dX12_isMade_21 28 (by decide) 24 rfl (fun hc => ?_) (fun hc => ?_)
    · have hf := (if_pos hc).symm.trans hf
      refine x_iconst C dX12_isMade_28 29 rfl 0 (by decide) ?_
      exact x_zret C rfl (hE _ (Option.some.inj hf).symm) dX12_isMade_29
    · have hf := (if_neg hc).symm.trans hf
      refine x_iconst C dX12_isMade_24 25 rfl 1 (by decide) ?_
      refine x_goto C dX12_isMade_25 29 (by decide) ?_
      exact x_zret C rfl (hE _ (Option.some.inj hf).symm) dX12_isMade_29
theorem dX12_canon_0 : decode cX12_canon 0 = .ok (.aload_n 0, 1) := by decide +kernel
theorem dX12_canon_1 : decode cX12_canon 1 = .ok (.iconst 0, 1) := by decide +kernel
theorem dX12_canon_2 : decode cX12_canon 2 = .ok (.putfield 1, 3) := by decide +kernel
theorem dX12_canon_5 : decode cX12_canon 5 = .ok (.aload_n 0, 1) := by decide +kernel
theorem dX12_canon_6 : decode cX12_canon 6 = .ok (.aload_n 0, 1) := by decide +kernel
theorem dX12_canon_7 : decode cX12_canon 7 = .ok (.iload_n 1, 1) := by decide +kernel
theorem dX12_canon_8 : decode cX12_canon 8 = .ok (.iload_n 2, 1) := by decide +kernel
theorem dX12_canon_9 : decode cX12_canon 9 = .ok (.invokevirtual 551, 3) := by decide +kernel
theorem dX12_canon_12 : decode cX12_canon 12 = .ok (.ifCond .eq 17, 3) := by decide +kernel
theorem dX12_canon_15 : decode cX12_canon 15 = .ok (.iload_n 3, 1) := by decide +kernel
theorem dX12_canon_16 : decode cX12_canon 16 = .ok (.i2l, 1) := by decide +kernel
theorem dX12_canon_17 : decode cX12_canon 17 = .ok (.lconst 0, 1) := by decide +kernel
theorem dX12_canon_18 : decode cX12_canon 18 = .ok (.lconst 1, 1) := by decide +kernel
theorem dX12_canon_19 : decode cX12_canon 19 = .ok (.invokestatic 130, 3) := by decide +kernel
theorem dX12_canon_22 : decode cX12_canon 22 = .ok (.ifCond .eq 7, 3) := by decide +kernel
theorem dX12_canon_25 : decode cX12_canon 25 = .ok (.iconst 1, 1) := by decide +kernel
theorem dX12_canon_26 : decode cX12_canon 26 = .ok (.goto 4, 3) := by decide +kernel
theorem dX12_canon_29 : decode cX12_canon 29 = .ok (.iconst 0, 1) := by decide +kernel
theorem dX12_canon_30 : decode cX12_canon 30 = .ok (.iconst 1, 1) := by decide +kernel
theorem dX12_canon_31 : decode cX12_canon 31 = .ok (.invokevirtual 265, 3) := by decide +kernel
theorem dX12_canon_34 : decode cX12_canon 34 = .ok (.ifCond .ne 5, 3) := by decide +kernel
theorem dX12_canon_37 : decode cX12_canon 37 = .ok (.iconst 0, 1) := by decide +kernel
theorem dX12_canon_38 : decode cX12_canon 38 = .ok (.ireturn, 1) := by decide +kernel
theorem dX12_canon_39 : decode cX12_canon 39 = .ok (.aload_n 0, 1) := by decide +kernel
theorem dX12_canon_40 : decode cX12_canon 40 = .ok (.iload_n 1, 1) := by decide +kernel
theorem dX12_canon_41 : decode cX12_canon 41 = .ok (.invokevirtual 474, 3) := by decide +kernel
theorem dX12_canon_44 : decode cX12_canon 44 = .ok (.iload_n 3, 1) := by decide +kernel
theorem dX12_canon_45 : decode cX12_canon 45 = .ok (.ifCond .ne 12, 3) := by decide +kernel
theorem dX12_canon_48 : decode cX12_canon 48 = .ok (.aload_n 0, 1) := by decide +kernel
theorem dX12_canon_49 : decode cX12_canon 49 = .ok (.getfield 94, 3) := by decide +kernel
theorem dX12_canon_52 : decode cX12_canon 52 = .ok (.iload_n 2, 1) := by decide +kernel
theorem dX12_canon_53 : decode cX12_canon 53 = .ok (.iaload, 1) := by decide +kernel
theorem dX12_canon_54 : decode cX12_canon 54 = .ok (.goto 14, 3) := by decide +kernel
theorem dX12_canon_57 : decode cX12_canon 57 = .ok (.aload_n 0, 1) := by decide +kernel
theorem dX12_canon_58 : decode cX12_canon 58 = .ok (.iload_n 1, 1) := by decide +kernel
theorem dX12_canon_59 : decode cX12_canon 59 = .ok (.aload_n 0, 1) := by decide +kernel
theorem dX12_canon_60 : decode cX12_canon 60 = .ok (.getfield 97, 3) := by decide +kernel
theorem dX12_canon_63 : decode cX12_canon 63 = .ok (.iload_n 2, 1) := by decide +kernel
theorem dX12_canon_64 : decode cX12_canon 64 = .ok (.iaload, 1) := by decide +kernel
theorem dX12_canon_65 : decode cX12_canon 65 = .ok (.invokevirtual 529, 3) := by decide +kernel
theorem dX12_canon_68 : decode cX12_canon 68 = .ok (.ireturn, 1) := by decide +kernel
abbrev rmX12_canon : Room := { frames := 4, cells := 0, slots := 0, locals := 113 }
noncomputable def fJX12_canon_m_30 (σ : St) (x0 : Nat) (x1 : Int32) (x2 : Int32) (x3 : Int32) (t0 : Int32) (t1 : Nat) : Option ((Int32 × St)) :=
(isO σ t1 11).bind fun _ =>
(fX12_right σ t1 t0 1).bind fun w31 =>
if w31.1 = 0 then
(some (0, w31.2))
else
((isO w31.2 x0 11).bind fun _ =>
(fX12_laysDrawing w31.2 x0 x1).bind fun w41 =>
if x3 = 0 then
((gR w41 x0 11 52).bind fun v49 =>
(aI w41 v49 0 x2).bind fun v53 =>
some (v53, w41))
else
((gR w41 x0 11 53).bind fun v60 =>
(aI w41 v60 0 x2).bind fun v64 =>
(isO w41 x0 11).bind fun _ =>
(fX12_ruleOf w41 x0 x1 v64).bind fun w65 =>
some (w65, w41)))
set_option maxHeartbeats 4000000 in
set_option maxRecDepth 100000 in
theorem jnX12_canon_m_30 {X : xX} {σ : St} {x0 : Nat} {x1 : Int32} {x2 : Int32} {x3 : Int32} {t0 : Int32} {t1 : Nat}  {c : (Int32 × St)} (C : Ok X cX12_canon 4 RX12 rmX12_canon (some .int)) (hf : fJX12_canon_m_30 σ x0 x1 x2 x3 t0 t1 = some c) (hE : ∀ r, c = r → xE1 X (some (.int r.1)) r.2) : V X (0, 0) σ 30 [(0, .ref (x0)), (1, .int (x1)), (2, .int (x2)), (3, .int (x3))] [.int (t0), .ref (t1)] := by
  unfold fJX12_canon_m_30 at hf
  refine x_iconst C dX12_canon_30 31 rfl 1 (by decide) ?_
  obtain ⟨o31, ho31, hf⟩ := x_bind hf
  obtain ⟨w31, hw31, hf⟩ := x_bind hf
  refine x_callVi C dX12_canon_31 34 rfl ho31 cl11.1 rfl (cX12_rightc hw31) kX12_right kvX12_right w1648 ⟨rfl, rfl⟩ ⟨Nat.le_of_ble_eq_true rfl, Nat.le_of_ble_eq_true rfl⟩ ⟨Nat.zero_le _, Nat.zero_le _⟩ rfl rfl (Nat.le_of_ble_eq_true rfl) ?_
  refine x_if_ne C dX12_canon_34 39 (by decide) 37 rfl (fun hc => ?_) (fun hc => ?_)
  · have hf := (if_neg hc).symm.trans hf
    refine x_aload_n C dX12_canon_39 40 rfl 0 rfl rfl ?_
    refine x_iload_n C dX12_canon_40 41 rfl 1 rfl rfl ?_
    obtain ⟨o41, ho41, hf⟩ := x_bind hf
    obtain ⟨w41, hw41, hf⟩ := x_bind hf
    refine x_callVv C dX12_canon_41 44 rfl ho41 cl11.1 rfl (cX12_laysDrawingc hw41) kX12_laysDrawing kvX12_laysDrawing w1984 ⟨rfl, rfl⟩ ⟨Nat.le_of_ble_eq_true rfl, Nat.le_of_ble_eq_true rfl⟩ ⟨Nat.zero_le _, Nat.zero_le _⟩ rfl rfl (Nat.le_of_ble_eq_true rfl) ?_
    refine x_iload_n C dX12_canon_44 45 rfl 3 rfl rfl ?_
    refine x_if_ne C dX12_canon_45 57 (by decide) 48 rfl (fun hc => ?_) (fun hc => ?_)
    · have hf := (if_neg hc).symm.trans hf
      refine x_aload_n C dX12_canon_57 58 rfl 0 rfl rfl ?_
      refine x_iload_n C dX12_canon_58 59 rfl 1 rfl rfl ?_
      refine x_aload_n C dX12_canon_59 60 rfl 0 rfl rfl ?_
      obtain ⟨v60, hv60, hf⟩ := x_bind hf
      refine x_getR C dX12_canon_60 63 rfl hv60 cl11 rfl w1496 ?_
      refine x_iload_n C dX12_canon_63 64 rfl 2 rfl rfl ?_
      obtain ⟨v64, hv64, hf⟩ := x_bind hf
      refine x_iaload C dX12_canon_64 65 rfl hv64 ?_
      obtain ⟨o65, ho65, hf⟩ := x_bind hf
      obtain ⟨w65, hw65, hf⟩ := x_bind hf
      refine x_callVi C dX12_canon_65 68 rfl ho65 cl11.1 rfl (cX12_ruleOfc hw65) kX12_ruleOf kvX12_ruleOf w2005 ⟨rfl, rfl⟩ ⟨Nat.le_of_ble_eq_true rfl, Nat.le_of_ble_eq_true rfl⟩ ⟨Nat.zero_le _, Nat.zero_le _⟩ rfl rfl (Nat.le_of_ble_eq_true rfl) ?_
      exact x_iret C (hE _ (Option.some.inj hf).symm) dX12_canon_68
    · have hf := (if_pos hc).symm.trans hf
      refine x_aload_n C dX12_canon_48 49 rfl 0 rfl rfl ?_
      obtain ⟨v49, hv49, hf⟩ := x_bind hf
      refine x_getR C dX12_canon_49 52 rfl hv49 cl11 rfl w1495 ?_
      refine x_iload_n C dX12_canon_52 53 rfl 2 rfl rfl ?_
      obtain ⟨v53, hv53, hf⟩ := x_bind hf
      refine x_iaload C dX12_canon_53 54 rfl hv53 ?_
      refine x_goto C dX12_canon_54 68 (by decide) ?_
      exact x_iret C (hE _ (Option.some.inj hf).symm) dX12_canon_68
  · have hf := (if_pos hc).symm.trans hf
    refine x_iconst C dX12_canon_37 38 rfl 0 (by decide) ?_
    exact x_iret C (hE _ (Option.some.inj hf).symm) dX12_canon_38
noncomputable def fJX12_canon_m_29 (σ : St) (x0 : Nat) (x1 : Int32) (x2 : Int32) (x3 : Int32) (t0 : Nat) : Option ((Int32 × St)) :=
fJX12_canon_m_30 σ x0 x1 x2 x3 0 t0
set_option maxHeartbeats 4000000 in
set_option maxRecDepth 100000 in
theorem jnX12_canon_m_29 {X : xX} {σ : St} {x0 : Nat} {x1 : Int32} {x2 : Int32} {x3 : Int32} {t0 : Nat}  {c : (Int32 × St)} (C : Ok X cX12_canon 4 RX12 rmX12_canon (some .int)) (hf : fJX12_canon_m_29 σ x0 x1 x2 x3 t0 = some c) (hE : ∀ r, c = r → xE1 X (some (.int r.1)) r.2) : V X (0, 0) σ 29 [(0, .ref (x0)), (1, .int (x1)), (2, .int (x2)), (3, .int (x3))] [.ref (t0)] := by
  unfold fJX12_canon_m_29 at hf
  refine x_iconst C dX12_canon_29 30 rfl 0 (by decide) ?_
  exact jnX12_canon_m_30 C hf hE
noncomputable def fX12_canon (σ : St) (x0 : Nat) (x1 : Int32) (x2 : Int32) (x3 : Int32) : Option ((Int32 × St)) :=
(wrF σ x0 11 0 (.int (0))).bind fun σ2 =>
(isO σ2 x0 11).bind fun _ =>
(fX12_isMade σ2 x0 x1 x2).bind fun w9 =>
if w9 = 0 then
(fJX12_canon_m_29 σ2 x0 x1 x2 x3 x0)
else
((fX12_isIn x3.toInt64 0 1).bind fun w19 =>
if w19 = 0 then
(fJX12_canon_m_29 σ2 x0 x1 x2 x3 x0)
else
(fJX12_canon_m_30 σ2 x0 x1 x2 x3 1 x0))
set_option maxHeartbeats 4000000 in
set_option maxRecDepth 100000 in
theorem cX12_canonc {l : Launch} {G : xG} {A : Nat → Prop} {σ : St} {x0 : Nat} {x1 : Int32} {x2 : Int32} {x3 : Int32} {c : (Int32 × St)} (hf : fX12_canon σ x0 x1 x2 x3 = some c) : Con l yX12_canon (xws yX12_canon cX12_canon 4 (some .int)) rmX12_canon [.ref (x0), .int (x1), .int (x2), .int (x3)] G A σ (some (.int c.1)) c.2 := by
  refine x_start rfl (Nat.le_of_ble_eq_true rfl) (fun X _ _ _ C hE0 => ?_)
  have hE : ∀ r, c = r → xE1 X (some (.int r.1)) r.2 := fun r e => e ▸ hE0
  show V X (0, 0) σ 0 [(0, .ref (x0)), (1, .int (x1)), (2, .int (x2)), (3, .int (x3))] []
  unfold fX12_canon at hf
  refine x_aload_n C dX12_canon_0 1 rfl 0 rfl rfl ?_
  refine x_iconst C dX12_canon_1 2 rfl 0 (by decide) ?_
  obtain ⟨σ2, hσ2, hf⟩ := x_bind hf
  refine x_putX C dX12_canon_2 5 rfl hσ2 cl11 rfl w1443 rfl rfl rfl ?_
  refine x_aload_n C dX12_canon_5 6 rfl 0 rfl rfl ?_
  refine x_aload_n C dX12_canon_6 7 rfl 0 rfl rfl ?_
  refine x_iload_n C dX12_canon_7 8 rfl 1 rfl rfl ?_
  refine x_iload_n C dX12_canon_8 9 rfl 2 rfl rfl ?_
  obtain ⟨o9, ho9, hf⟩ := x_bind hf
  obtain ⟨w9, hw9, hf⟩ := x_bind hf
  refine x_callVi C dX12_canon_9 12 rfl ho9 cl11.1 rfl (cX12_isMadec hw9) kX12_isMade kvX12_isMade w2113 ⟨rfl, rfl⟩ ⟨Nat.le_of_ble_eq_true rfl, Nat.le_of_ble_eq_true rfl⟩ ⟨Nat.zero_le _, Nat.zero_le _⟩ rfl rfl (Nat.le_of_ble_eq_true rfl) ?_
  refine x_if_eq C dX12_canon_12 29 (by decide) 15 rfl (fun hc => ?_) (fun hc => ?_)
  · have hf := (if_pos hc).symm.trans hf
    exact jnX12_canon_m_29 C hf hE
  · have hf := (if_neg hc).symm.trans hf
    refine x_iload_n C dX12_canon_15 16 rfl 3 rfl rfl ?_
    refine x_i2l C dX12_canon_16 17 rfl ?_
    refine x_lconst C dX12_canon_17 18 rfl 0 (by decide) ?_
    refine x_lconst C dX12_canon_18 19 rfl 1 (by decide) ?_
    obtain ⟨w19, hw19, hf⟩ := x_bind hf
    refine x_callSi C dX12_canon_19 22 rfl (cX12_isInc hw19) kX12_isIn ksX12_isIn w1645 ⟨rfl, rfl⟩ ⟨Nat.le_of_ble_eq_true rfl, Nat.le_of_ble_eq_true rfl⟩ ⟨Nat.zero_le _, Nat.zero_le _⟩ rfl rfl (Nat.le_of_ble_eq_true rfl) ?_
    refine x_if_eq C dX12_canon_22 29 (by decide) 25 rfl (fun hc => ?_) (fun hc => ?_)
    · have hf := (if_pos hc).symm.trans hf
      exact jnX12_canon_m_29 C hf hE
    · have hf := (if_neg hc).symm.trans hf
      refine x_iconst C dX12_canon_25 26 rfl 1 (by decide) ?_
      refine x_goto C dX12_canon_26 30 (by decide) ?_
      exact jnX12_canon_m_30 C hf hE
theorem dX12_fine_0 : decode cX12_fine 0 = .ok (.aload_n 0, 1) := by decide +kernel
theorem dX12_fine_1 : decode cX12_fine 1 = .ok (.getfield 209, 3) := by decide +kernel
theorem dX12_fine_4 : decode cX12_fine 4 = .ok (.ifCond .ne 7, 3) := by decide +kernel
theorem dX12_fine_7 : decode cX12_fine 7 = .ok (.iconst 1, 1) := by decide +kernel
theorem dX12_fine_8 : decode cX12_fine 8 = .ok (.goto 4, 3) := by decide +kernel
theorem dX12_fine_11 : decode cX12_fine 11 = .ok (.iconst 0, 1) := by decide +kernel
theorem dX12_fine_12 : decode cX12_fine 12 = .ok (.ireturn, 1) := by decide +kernel
abbrev rmX12_fine : Room := { frames := 0, cells := 0, slots := 0, locals := 0 }
noncomputable def fX12_fine (σ : St) (x0 : Nat) : Option (Int32) :=
(gI σ x0 11 13).bind fun v1 =>
if v1 = 0 then
(some 1)
else
(some 0)
set_option maxHeartbeats 4000000 in
set_option maxRecDepth 100000 in
theorem cX12_finec {l : Launch} {G : xG} {A : Nat → Prop} {σ : St} {x0 : Nat} {c : Int32} (hf : fX12_fine σ x0 = some c) : Con l yX12_fine (xws yX12_fine cX12_fine 1 (some .boolean)) rmX12_fine [.ref (x0)] G A σ (some (.int c)) σ := by
  refine x_start rfl (Nat.le_of_ble_eq_true rfl) (fun X _ _ _ C hE0 => ?_)
  have hE : ∀ r, c = r → xE1 X (some (.int r)) σ := fun r e => e ▸ hE0
  show V X (0, 0) σ 0 [(0, .ref (x0))] []
  unfold fX12_fine at hf
  refine x_aload_n C dX12_fine_0 1 rfl 0 rfl rfl ?_
  obtain ⟨v1, hv1, hf⟩ := x_bind hf
  refine x_getI C dX12_fine_1 4 rfl hv1 cl11 rfl w1456 ?_
  refine x_if_ne C dX12_fine_4 11 (by decide) 7 rfl (fun hc => ?_) (fun hc => ?_)
  · have hf := (if_neg hc).symm.trans hf
    refine x_iconst C dX12_fine_11 12 rfl 0 (by decide) ?_
    exact x_zret C rfl (hE _ (Option.some.inj hf).symm) dX12_fine_12
  · have hf := (if_pos hc).symm.trans hf
    refine x_iconst C dX12_fine_7 8 rfl 1 (by decide) ?_
    refine x_goto C dX12_fine_8 12 (by decide) ?_
    exact x_zret C rfl (hE _ (Option.some.inj hf).symm) dX12_fine_12
theorem dX12_check_0 : decode cX12_check 0 = .ok (.aload_n 0, 1) := by decide +kernel
theorem dX12_check_1 : decode cX12_check 1 = .ok (.invokevirtual 212, 3) := by decide +kernel
theorem dX12_check_4 : decode cX12_check 4 = .ok (.ifCond .eq 20, 3) := by decide +kernel
theorem dX12_check_7 : decode cX12_check 7 = .ok (.iload_n 1, 1) := by decide +kernel
theorem dX12_check_8 : decode cX12_check 8 = .ok (.ifCond .ne 16, 3) := by decide +kernel
theorem dX12_check_11 : decode cX12_check 11 = .ok (.aload_n 0, 1) := by decide +kernel
theorem dX12_check_12 : decode cX12_check 12 = .ok (.iload_n 2, 1) := by decide +kernel
theorem dX12_check_13 : decode cX12_check 13 = .ok (.putfield 209, 3) := by decide +kernel
theorem dX12_check_16 : decode cX12_check 16 = .ok (.aload_n 0, 1) := by decide +kernel
theorem dX12_check_17 : decode cX12_check 17 = .ok (.aload_n 0, 1) := by decide +kernel
theorem dX12_check_18 : decode cX12_check 18 = .ok (.getfield 192, 3) := by decide +kernel
theorem dX12_check_21 : decode cX12_check 21 = .ok (.putfield 27, 3) := by decide +kernel
theorem dX12_check_24 : decode cX12_check 24 = .ok (.aload_n 0, 1) := by decide +kernel
theorem dX12_check_25 : decode cX12_check 25 = .ok (.invokevirtual 212, 3) := by decide +kernel
theorem dX12_check_28 : decode cX12_check 28 = .ok (.ireturn, 1) := by decide +kernel
abbrev rmX12_check : Room := { frames := 1, cells := 0, slots := 0, locals := 20 }
noncomputable def fX12_check (σ : St) (x0 : Nat) (x1 : Int32) (x2 : Int32) : Option ((Int32 × St)) :=
(isO σ x0 11).bind fun _ =>
(fX12_fine σ x0).bind fun w1 =>
if w1 = 0 then
((isO σ x0 11).bind fun _ =>
(fX12_fine σ x0).bind fun w25 =>
(zok w25).bind fun z28 =>
some (z28, σ))
else
(if x1 = 0 then
((wrF σ x0 11 13 (.int (x2))).bind fun σ13 =>
(gI σ13 x0 11 10).bind fun v18 =>
(wrF σ13 x0 11 14 (.int (v18))).bind fun σ21 =>
(isO σ21 x0 11).bind fun _ =>
(fX12_fine σ21 x0).bind fun w25 =>
(zok w25).bind fun z28 =>
some (z28, σ21))
else
((isO σ x0 11).bind fun _ =>
(fX12_fine σ x0).bind fun w25 =>
(zok w25).bind fun z28 =>
some (z28, σ)))
set_option maxHeartbeats 4000000 in
set_option maxRecDepth 100000 in
theorem cX12_checkc {l : Launch} {G : xG} {A : Nat → Prop} {σ : St} {x0 : Nat} {x1 : Int32} {x2 : Int32} {c : (Int32 × St)} (hf : fX12_check σ x0 x1 x2 = some c) : Con l yX12_check (xws yX12_check cX12_check 3 (some .boolean)) rmX12_check [.ref (x0), .int (x1), .int (x2)] G A σ (some (.int c.1)) c.2 := by
  refine x_start rfl (Nat.le_of_ble_eq_true rfl) (fun X _ _ _ C hE0 => ?_)
  have hE : ∀ r, c = r → xE1 X (some (.int r.1)) r.2 := fun r e => e ▸ hE0
  show V X (0, 0) σ 0 [(0, .ref (x0)), (1, .int (x1)), (2, .int (x2))] []
  unfold fX12_check at hf
  refine x_aload_n C dX12_check_0 1 rfl 0 rfl rfl ?_
  obtain ⟨o1, ho1, hf⟩ := x_bind hf
  obtain ⟨w1, hw1, hf⟩ := x_bind hf
  refine x_callVi C dX12_check_1 4 rfl ho1 cl11.1 rfl (cX12_finec hw1) kX12_fine kvX12_fine w1683 ⟨rfl, rfl⟩ ⟨Nat.le_of_ble_eq_true rfl, Nat.le_of_ble_eq_true rfl⟩ ⟨Nat.zero_le _, Nat.zero_le _⟩ rfl rfl (Nat.le_of_ble_eq_true rfl) ?_
  refine x_if_eq C dX12_check_4 24 (by decide) 7 rfl (fun hc => ?_) (fun hc => ?_)
  · have hf := (if_pos hc).symm.trans hf
    refine x_aload_n C dX12_check_24 25 rfl 0 rfl rfl ?_
    obtain ⟨o25, ho25, hf⟩ := x_bind hf
    obtain ⟨w25, hw25, hf⟩ := x_bind hf
    refine x_callVi C dX12_check_25 28 rfl ho25 cl11.1 rfl (cX12_finec hw25) kX12_fine kvX12_fine w1683 ⟨rfl, rfl⟩ ⟨Nat.le_of_ble_eq_true rfl, Nat.le_of_ble_eq_true rfl⟩ ⟨Nat.zero_le _, Nat.zero_le _⟩ rfl rfl (Nat.le_of_ble_eq_true rfl) ?_
    obtain ⟨z28, hz28, hf⟩ := x_bind hf
    refine x_topi (zok_nar hz28).1 ?_
    exact x_zret C (zok_w hz28) (hE _ (Option.some.inj hf).symm) dX12_check_28
  · have hf := (if_neg hc).symm.trans hf
    refine x_iload_n C dX12_check_7 8 rfl 1 rfl rfl ?_
    refine x_if_ne C dX12_check_8 24 (by decide) 11 rfl (fun hc => ?_) (fun hc => ?_)
    · have hf := (if_neg hc).symm.trans hf
      refine x_aload_n C dX12_check_24 25 rfl 0 rfl rfl ?_
      obtain ⟨o25, ho25, hf⟩ := x_bind hf
      obtain ⟨w25, hw25, hf⟩ := x_bind hf
      refine x_callVi C dX12_check_25 28 rfl ho25 cl11.1 rfl (cX12_finec hw25) kX12_fine kvX12_fine w1683 ⟨rfl, rfl⟩ ⟨Nat.le_of_ble_eq_true rfl, Nat.le_of_ble_eq_true rfl⟩ ⟨Nat.zero_le _, Nat.zero_le _⟩ rfl rfl (Nat.le_of_ble_eq_true rfl) ?_
      obtain ⟨z28, hz28, hf⟩ := x_bind hf
      refine x_topi (zok_nar hz28).1 ?_
      exact x_zret C (zok_w hz28) (hE _ (Option.some.inj hf).symm) dX12_check_28
    · have hf := (if_pos hc).symm.trans hf
      refine x_aload_n C dX12_check_11 12 rfl 0 rfl rfl ?_
      refine x_iload_n C dX12_check_12 13 rfl 2 rfl rfl ?_
      obtain ⟨σ13, hσ13, hf⟩ := x_bind hf
      refine x_putX C dX12_check_13 16 rfl hσ13 cl11 rfl w1456 rfl rfl rfl ?_
      refine x_aload_n C dX12_check_16 17 rfl 0 rfl rfl ?_
      refine x_aload_n C dX12_check_17 18 rfl 0 rfl rfl ?_
      obtain ⟨v18, hv18, hf⟩ := x_bind hf
      refine x_getI C dX12_check_18 21 rfl hv18 cl11 rfl w1453 ?_
      obtain ⟨σ21, hσ21, hf⟩ := x_bind hf
      refine x_putX C dX12_check_21 24 rfl hσ21 cl11 rfl w1457 rfl rfl rfl ?_
      refine x_aload_n C dX12_check_24 25 rfl 0 rfl rfl ?_
      obtain ⟨o25, ho25, hf⟩ := x_bind hf
      obtain ⟨w25, hw25, hf⟩ := x_bind hf
      refine x_callVi C dX12_check_25 28 rfl ho25 cl11.1 rfl (cX12_finec hw25) kX12_fine kvX12_fine w1683 ⟨rfl, rfl⟩ ⟨Nat.le_of_ble_eq_true rfl, Nat.le_of_ble_eq_true rfl⟩ ⟨Nat.zero_le _, Nat.zero_le _⟩ rfl rfl (Nat.le_of_ble_eq_true rfl) ?_
      obtain ⟨z28, hz28, hf⟩ := x_bind hf
      refine x_topi (zok_nar hz28).1 ?_
      exact x_zret C (zok_w hz28) (hE _ (Option.some.inj hf).symm) dX12_check_28
theorem dX12_clears_0 : decode cX12_clears 0 = .ok (.iconst 0, 1) := by decide +kernel
theorem dX12_clears_1 : decode cX12_clears 1 = .ok (.istore_n 2, 1) := by decide +kernel
theorem dX12_clears_2 : decode cX12_clears 2 = .ok (.iload_n 2, 1) := by decide +kernel
theorem dX12_clears_3 : decode cX12_clears 3 = .ok (.sipush 294, 3) := by decide +kernel
theorem dX12_clears_6 : decode cX12_clears 6 = .ok (.if_icmp .ge 13, 3) := by decide +kernel
theorem dX12_clears_9 : decode cX12_clears 9 = .ok (.aload_n 0, 1) := by decide +kernel
theorem dX12_clears_10 : decode cX12_clears 10 = .ok (.iload_n 2, 1) := by decide +kernel
theorem dX12_clears_11 : decode cX12_clears 11 = .ok (.lconst 0, 1) := by decide +kernel
theorem dX12_clears_12 : decode cX12_clears 12 = .ok (.lastore, 1) := by decide +kernel
theorem dX12_clears_13 : decode cX12_clears 13 = .ok (.iinc 2 1, 3) := by decide +kernel
theorem dX12_clears_16 : decode cX12_clears 16 = .ok (.goto (-14), 3) := by decide +kernel
theorem dX12_clears_19 : decode cX12_clears 19 = .ok (.aload_n 0, 1) := by decide +kernel
theorem dX12_clears_20 : decode cX12_clears 20 = .ok (.iconst 0, 1) := by decide +kernel
theorem dX12_clears_21 : decode cX12_clears 21 = .ok (.iload_n 1, 1) := by decide +kernel
theorem dX12_clears_22 : decode cX12_clears 22 = .ok (.i2l, 1) := by decide +kernel
theorem dX12_clears_23 : decode cX12_clears 23 = .ok (.lastore, 1) := by decide +kernel
theorem dX12_clears_24 : decode cX12_clears 24 = .ok (.iconst 0, 1) := by decide +kernel
theorem dX12_clears_25 : decode cX12_clears 25 = .ok (.istore_n 2, 1) := by decide +kernel
theorem dX12_clears_26 : decode cX12_clears 26 = .ok (.iload_n 2, 1) := by decide +kernel
theorem dX12_clears_27 : decode cX12_clears 27 = .ok (.iconst 5, 1) := by decide +kernel
theorem dX12_clears_28 : decode cX12_clears 28 = .ok (.if_icmp .ge 23, 3) := by decide +kernel
theorem dX12_clears_31 : decode cX12_clears 31 = .ok (.aload_n 0, 1) := by decide +kernel
theorem dX12_clears_32 : decode cX12_clears 32 = .ok (.iconst 2, 1) := by decide +kernel
theorem dX12_clears_33 : decode cX12_clears 33 = .ok (.iload_n 2, 1) := by decide +kernel
theorem dX12_clears_34 : decode cX12_clears 34 = .ok (.iadd, 1) := by decide +kernel
theorem dX12_clears_35 : decode cX12_clears 35 = .ok (.lconst 1, 1) := by decide +kernel
theorem dX12_clears_36 : decode cX12_clears 36 = .ok (.lastore, 1) := by decide +kernel
theorem dX12_clears_37 : decode cX12_clears 37 = .ok (.aload_n 0, 1) := by decide +kernel
theorem dX12_clears_38 : decode cX12_clears 38 = .ok (.bipush 7, 2) := by decide +kernel
theorem dX12_clears_40 : decode cX12_clears 40 = .ok (.iload_n 2, 1) := by decide +kernel
theorem dX12_clears_41 : decode cX12_clears 41 = .ok (.iadd, 1) := by decide +kernel
theorem dX12_clears_42 : decode cX12_clears 42 = .ok (.iload_n 2, 1) := by decide +kernel
theorem dX12_clears_43 : decode cX12_clears 43 = .ok (.i2l, 1) := by decide +kernel
theorem dX12_clears_44 : decode cX12_clears 44 = .ok (.lastore, 1) := by decide +kernel
theorem dX12_clears_45 : decode cX12_clears 45 = .ok (.iinc 2 1, 3) := by decide +kernel
theorem dX12_clears_48 : decode cX12_clears 48 = .ok (.goto (-22), 3) := by decide +kernel
theorem dX12_clears_51 : decode cX12_clears 51 = .ok (.return_, 1) := by decide +kernel
abbrev rmX12_clears : Room := { frames := 0, cells := 0, slots := 0, locals := 0 }
noncomputable def fLX12_clears_2 (x0 : Nat) (x1 : Int32) (a : Int32 × St) : Option ((Int32 × St) ⊕ (St)) :=
if ((294 : Int32)) ≤ a.1 then
(some (Sum.inr a.2))
else
((sL a.2 x0 a.1 0).bind fun σ12 =>
xlet (a.1 + 1) fun v13 =>
some (Sum.inl (v13, σ12)))
set_option maxHeartbeats 4000000 in
set_option maxRecDepth 100000 in
theorem lpX12_clears_2 {X : xX} {x0 : Nat} {x1 : Int32}  {a0 : Int32 × St} {b : St} (C : Ok X cX12_clears 3 RX12 rmX12_clears none) (hb : iterP (fLX12_clears_2 x0 x1) a0 = some b) (hy0 : ∀ s, b = s → V X (0, 0) s 19 [(0, .ref (x0)), (1, .int (x1))] []) : V X (0, 0) a0.2 2 [(0, .ref (x0)), (1, .int (x1)), (2, .int (a0.1))] [] := by
  obtain ⟨n, hn⟩ := iterP_some hb
  refine x_loop (P := fun a => V X (0, 0) a.2 2 [(0, .ref (x0)), (1, .int (x1)), (2, .int (a.1))] []) ?_ n a0 hn
  intro a c hf hK hxx
  have hx0 : ∀ s, c = Sum.inr s → V X (0, 0) s 19 [(0, .ref (x0)), (1, .int (x1))] [] := fun s e => hy0 s (hxx _ e).symm
  unfold fLX12_clears_2 at hf
  refine x_iload_n C dX12_clears_2 3 rfl 2 rfl rfl ?_
  refine x_sipush C dX12_clears_3 6 rfl 294 (by decide) ?_
  refine x_icmp_ge C dX12_clears_6 19 (by decide) 9 rfl (fun hc => ?_) (fun hc => ?_)
  · have hf := (if_pos hc).symm.trans hf
    refine x_lv [0, 1] (lv' := [(0, .ref (x0)), (1, .int (x1))]) rfl ?_
    exact hx0 _ (Option.some.inj hf).symm
  · have hf := (if_neg hc).symm.trans hf
    refine x_aload_n C dX12_clears_9 10 rfl 0 rfl rfl ?_
    refine x_iload_n C dX12_clears_10 11 rfl 2 rfl rfl ?_
    refine x_lconst C dX12_clears_11 12 rfl 0 (by decide) ?_
    obtain ⟨σ12, hσ12, hf⟩ := x_bind hf
    refine x_lastore C dX12_clears_12 13 rfl hσ12 ?_
    obtain ⟨v13, ev13, hf⟩ := xlet_some hf
    refine x_iinc C dX12_clears_13 16 rfl 2 rfl v13 ev13 rfl [(2, .int (v13)), (0, .ref (x0)), (1, .int (x1))] rfl ?_
    refine x_goto C dX12_clears_16 2 (by decide) ?_
    refine x_lv [1, 2, 0] (lv' := [(0, .ref (x0)), (1, .int (x1)), (2, .int (v13))]) rfl ?_
    exact hK _ (Option.some.inj hf).symm
noncomputable def fLX12_clears_26 (x0 : Nat) (a : Int32 × St) : Option ((Int32 × St) ⊕ (St)) :=
if ((5 : Int32)) ≤ a.1 then
(some (Sum.inr a.2))
else
((sL a.2 x0 (2 + a.1) 1).bind fun σ36 =>
(sL σ36 x0 (7 + a.1) a.1.toInt64).bind fun σ44 =>
xlet (a.1 + 1) fun v45 =>
some (Sum.inl (v45, σ44)))
set_option maxHeartbeats 4000000 in
set_option maxRecDepth 100000 in
theorem lpX12_clears_26 {X : xX} {x0 : Nat}  {a0 : Int32 × St} {b : St} (C : Ok X cX12_clears 3 RX12 rmX12_clears none) (hb : iterP (fLX12_clears_26 x0) a0 = some b) (hy0 : ∀ s, b = s → V X (0, 0) s 51 [] []) : V X (0, 0) a0.2 26 [(0, .ref (x0)), (2, .int (a0.1))] [] := by
  obtain ⟨n, hn⟩ := iterP_some hb
  refine x_loop (P := fun a => V X (0, 0) a.2 26 [(0, .ref (x0)), (2, .int (a.1))] []) ?_ n a0 hn
  intro a c hf hK hxx
  have hx0 : ∀ s, c = Sum.inr s → V X (0, 0) s 51 [] [] := fun s e => hy0 s (hxx _ e).symm
  unfold fLX12_clears_26 at hf
  refine x_iload_n C dX12_clears_26 27 rfl 1 rfl rfl ?_
  refine x_iconst C dX12_clears_27 28 rfl 5 (by decide) ?_
  refine x_icmp_ge C dX12_clears_28 51 (by decide) 31 rfl (fun hc => ?_) (fun hc => ?_)
  · have hf := (if_pos hc).symm.trans hf
    refine x_lv [] (lv' := []) rfl ?_
    exact hx0 _ (Option.some.inj hf).symm
  · have hf := (if_neg hc).symm.trans hf
    refine x_aload_n C dX12_clears_31 32 rfl 0 rfl rfl ?_
    refine x_iconst C dX12_clears_32 33 rfl 2 (by decide) ?_
    refine x_iload_n C dX12_clears_33 34 rfl 1 rfl rfl ?_
    refine x_iadd C dX12_clears_34 35 rfl ?_
    refine x_lconst C dX12_clears_35 36 rfl 1 (by decide) ?_
    obtain ⟨σ36, hσ36, hf⟩ := x_bind hf
    refine x_lastore C dX12_clears_36 37 rfl hσ36 ?_
    refine x_aload_n C dX12_clears_37 38 rfl 0 rfl rfl ?_
    refine x_bipush C dX12_clears_38 40 rfl 7 (by decide) ?_
    refine x_iload_n C dX12_clears_40 41 rfl 1 rfl rfl ?_
    refine x_iadd C dX12_clears_41 42 rfl ?_
    refine x_iload_n C dX12_clears_42 43 rfl 1 rfl rfl ?_
    refine x_i2l C dX12_clears_43 44 rfl ?_
    obtain ⟨σ44, hσ44, hf⟩ := x_bind hf
    refine x_lastore C dX12_clears_44 45 rfl hσ44 ?_
    obtain ⟨v45, ev45, hf⟩ := xlet_some hf
    refine x_iinc C dX12_clears_45 48 rfl 1 rfl v45 ev45 rfl [(2, .int (v45)), (0, .ref (x0))] rfl ?_
    refine x_goto C dX12_clears_48 26 (by decide) ?_
    refine x_lv [1, 0] (lv' := [(0, .ref (x0)), (2, .int (v45))]) rfl ?_
    exact hK _ (Option.some.inj hf).symm
noncomputable def fX12_clears (σ : St) (x0 : Nat) (x1 : Int32) : Option (St) :=
(iterP (fLX12_clears_2 x0 x1) (0, σ)).bind fun b2 =>
(sL b2 x0 0 x1.toInt64).bind fun σ23 =>
(iterP (fLX12_clears_26 x0) (0, σ23)).bind fun b26 =>
some b26
set_option maxHeartbeats 4000000 in
set_option maxRecDepth 100000 in
theorem cX12_clearsc {l : Launch} {G : xG} {A : Nat → Prop} {σ : St} {x0 : Nat} {x1 : Int32} {c : St} (hf : fX12_clears σ x0 x1 = some c) : Con l yX12_clears (xws yX12_clears cX12_clears 3 none) rmX12_clears [.ref (x0), .int (x1)] G A σ none c := by
  refine x_start rfl (Nat.le_of_ble_eq_true rfl) (fun X _ _ _ C hE0 => ?_)
  have hE : ∀ r, c = r → xE1 X none r := fun r e => e ▸ hE0
  show V X (0, 0) σ 0 [(0, .ref (x0)), (1, .int (x1))] []
  unfold fX12_clears at hf
  refine x_iconst C dX12_clears_0 1 rfl 0 (by decide) ?_
  refine x_istore_n C dX12_clears_1 2 rfl rfl rfl [(2, .int (0)), (0, .ref (x0)), (1, .int (x1))] rfl ?_
  obtain ⟨b2, hb2, hf⟩ := x_bind hf
  refine x_lv [1, 2, 0] (lv' := [(0, .ref (x0)), (1, .int (x1)), (2, .int (0))]) rfl ?_
  refine lpX12_clears_2 C hb2 (fun s2 e2 => ?_)
  subst e2
  refine x_aload_n C dX12_clears_19 20 rfl 0 rfl rfl ?_
  refine x_iconst C dX12_clears_20 21 rfl 0 (by decide) ?_
  refine x_iload_n C dX12_clears_21 22 rfl 1 rfl rfl ?_
  refine x_i2l C dX12_clears_22 23 rfl ?_
  obtain ⟨σ23, hσ23, hf⟩ := x_bind hf
  refine x_lastore C dX12_clears_23 24 rfl hσ23 ?_
  refine x_iconst C dX12_clears_24 25 rfl 0 (by decide) ?_
  refine x_istore_n C dX12_clears_25 26 rfl rfl rfl [(2, .int (0)), (0, .ref (x0)), (1, .int (x1))] rfl ?_
  obtain ⟨b26, hb26, hf⟩ := x_bind hf
  refine x_lv [1, 0] (lv' := [(0, .ref (x0)), (2, .int (0))]) rfl ?_
  refine lpX12_clears_26 C hb26 (fun s26 e26 => ?_)
  subst e26
  exact x_vret C (hE _ (Option.some.inj hf).symm) dX12_clears_51
theorem dX12_doesFall_0 : decode cX12_doesFall 0 = .ok (.aload_n 0, 1) := by decide +kernel
theorem dX12_doesFall_1 : decode cX12_doesFall 1 = .ok (.aload_n 0, 1) := by decide +kernel
theorem dX12_doesFall_2 : decode cX12_doesFall 2 = .ok (.iload_n 1, 1) := by decide +kernel
theorem dX12_doesFall_3 : decode cX12_doesFall 3 = .ok (.invokevirtual 285, 3) := by decide +kernel
theorem dX12_doesFall_6 : decode cX12_doesFall 6 = .ok (.aload_n 0, 1) := by decide +kernel
theorem dX12_doesFall_7 : decode cX12_doesFall 7 = .ok (.iload_n 1, 1) := by decide +kernel
theorem dX12_doesFall_8 : decode cX12_doesFall 8 = .ok (.invokevirtual 288, 3) := by decide +kernel
theorem dX12_doesFall_11 : decode cX12_doesFall 11 = .ok (.invokevirtual 312, 3) := by decide +kernel
theorem dX12_doesFall_14 : decode cX12_doesFall 14 = .ok (.ifCond .le 7, 3) := by decide +kernel
theorem dX12_doesFall_17 : decode cX12_doesFall 17 = .ok (.iconst 1, 1) := by decide +kernel
theorem dX12_doesFall_18 : decode cX12_doesFall 18 = .ok (.goto 4, 3) := by decide +kernel
theorem dX12_doesFall_21 : decode cX12_doesFall 21 = .ok (.iconst 0, 1) := by decide +kernel
theorem dX12_doesFall_22 : decode cX12_doesFall 22 = .ok (.ireturn, 1) := by decide +kernel
abbrev rmX12_doesFall : Room := { frames := 4, cells := 0, slots := 0, locals := 96 }
noncomputable def fX12_doesFall (σ : St) (x0 : Nat) (x1 : Int32) : Option (Int32) :=
(isO σ x0 11).bind fun _ =>
(fX12_leftOf σ x0 x1).bind fun w3 =>
(isO σ x0 11).bind fun _ =>
(fX12_rightOf σ x0 x1).bind fun w8 =>
(isO σ x0 11).bind fun _ =>
(fX12_compared σ x0 w3 w8).bind fun w11 =>
if w11 ≤ 0 then
(some 0)
else
(some 1)
set_option maxHeartbeats 4000000 in
set_option maxRecDepth 100000 in
theorem cX12_doesFallc {l : Launch} {G : xG} {A : Nat → Prop} {σ : St} {x0 : Nat} {x1 : Int32} {c : Int32} (hf : fX12_doesFall σ x0 x1 = some c) : Con l yX12_doesFall (xws yX12_doesFall cX12_doesFall 2 (some .boolean)) rmX12_doesFall [.ref (x0), .int (x1)] G A σ (some (.int c)) σ := by
  refine x_start rfl (Nat.le_of_ble_eq_true rfl) (fun X _ _ _ C hE0 => ?_)
  have hE : ∀ r, c = r → xE1 X (some (.int r)) σ := fun r e => e ▸ hE0
  show V X (0, 0) σ 0 [(0, .ref (x0)), (1, .int (x1))] []
  unfold fX12_doesFall at hf
  refine x_aload_n C dX12_doesFall_0 1 rfl 0 rfl rfl ?_
  refine x_aload_n C dX12_doesFall_1 2 rfl 0 rfl rfl ?_
  refine x_iload_n C dX12_doesFall_2 3 rfl 1 rfl rfl ?_
  obtain ⟨o3, ho3, hf⟩ := x_bind hf
  obtain ⟨w3, hw3, hf⟩ := x_bind hf
  refine x_callVl C dX12_doesFall_3 6 rfl ho3 cl11.1 rfl (cX12_leftOfc hw3) kX12_leftOf kvX12_leftOf w1752 ⟨rfl, rfl⟩ ⟨Nat.le_of_ble_eq_true rfl, Nat.le_of_ble_eq_true rfl⟩ ⟨Nat.zero_le _, Nat.zero_le _⟩ rfl rfl (Nat.le_of_ble_eq_true rfl) ?_
  refine x_aload_n C dX12_doesFall_6 7 rfl 0 rfl rfl ?_
  refine x_iload_n C dX12_doesFall_7 8 rfl 1 rfl rfl ?_
  obtain ⟨o8, ho8, hf⟩ := x_bind hf
  obtain ⟨w8, hw8, hf⟩ := x_bind hf
  refine x_callVl C dX12_doesFall_8 11 rfl ho8 cl11.1 rfl (cX12_rightOfc hw8) kX12_rightOf kvX12_rightOf w1756 ⟨rfl, rfl⟩ ⟨Nat.le_of_ble_eq_true rfl, Nat.le_of_ble_eq_true rfl⟩ ⟨Nat.zero_le _, Nat.zero_le _⟩ rfl rfl (Nat.le_of_ble_eq_true rfl) ?_
  obtain ⟨o11, ho11, hf⟩ := x_bind hf
  obtain ⟨w11, hw11, hf⟩ := x_bind hf
  refine x_callVi C dX12_doesFall_11 14 rfl ho11 cl11.1 rfl (cX12_comparedc hw11) kX12_compared kvX12_compared w1760 ⟨rfl, rfl⟩ ⟨Nat.le_of_ble_eq_true rfl, Nat.le_of_ble_eq_true rfl⟩ ⟨Nat.zero_le _, Nat.zero_le _⟩ rfl rfl (Nat.le_of_ble_eq_true rfl) ?_
  refine x_if_le C dX12_doesFall_14 21 (by decide) 17 rfl (fun hc => ?_) (fun hc => ?_)
  · have hf := (if_pos hc).symm.trans hf
    refine x_iconst C dX12_doesFall_21 22 rfl 0 (by decide) ?_
    exact x_zret C rfl (hE _ (Option.some.inj hf).symm) dX12_doesFall_22
  · have hf := (if_neg hc).symm.trans hf
    refine x_iconst C dX12_doesFall_17 18 rfl 1 (by decide) ?_
    refine x_goto C dX12_doesFall_18 22 (by decide) ?_
    exact x_zret C rfl (hE _ (Option.some.inj hf).symm) dX12_doesFall_22
