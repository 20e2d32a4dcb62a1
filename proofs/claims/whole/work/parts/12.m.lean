/-! methods: X2_begin X2_beginAll X8_drop X8_firstCovered X8_dropCovered X8_weighBy X8_order X8_isFalling X8_falling X8_setRight X8_ruleOf X8_whereOf X8_after X8_codeOf X9_choose -/
theorem dX2_begin_0 : decode cX2_begin 0 = .ok (.aload_n 0, 1) := by decide +kernel
theorem dX2_begin_1 : decode cX2_begin 1 = .ok (.getfield 18, 3) := by decide +kernel
theorem dX2_begin_4 : decode cX2_begin 4 = .ok (.iload_n 1, 1) := by decide +kernel
theorem dX2_begin_5 : decode cX2_begin 5 = .ok (.lload_n 2, 1) := by decide +kernel
theorem dX2_begin_6 : decode cX2_begin 6 = .ok (.lastore, 1) := by decide +kernel
theorem dX2_begin_7 : decode cX2_begin 7 = .ok (.aload_n 0, 1) := by decide +kernel
theorem dX2_begin_8 : decode cX2_begin 8 = .ok (.getfield 22, 3) := by decide +kernel
theorem dX2_begin_11 : decode cX2_begin 11 = .ok (.iload_n 1, 1) := by decide +kernel
theorem dX2_begin_12 : decode cX2_begin 12 = .ok (.lload_n 2, 1) := by decide +kernel
theorem dX2_begin_13 : decode cX2_begin 13 = .ok (.lastore, 1) := by decide +kernel
theorem dX2_begin_14 : decode cX2_begin 14 = .ok (.aload_n 0, 1) := by decide +kernel
theorem dX2_begin_15 : decode cX2_begin 15 = .ok (.getfield 25, 3) := by decide +kernel
theorem dX2_begin_18 : decode cX2_begin 18 = .ok (.iload_n 1, 1) := by decide +kernel
theorem dX2_begin_19 : decode cX2_begin 19 = .ok (.iconst 0, 1) := by decide +kernel
theorem dX2_begin_20 : decode cX2_begin 20 = .ok (.iastore, 1) := by decide +kernel
theorem dX2_begin_21 : decode cX2_begin 21 = .ok (.return_, 1) := by decide +kernel
abbrev rmX2_begin : Room := { frames := 0, cells := 0, slots := 0, locals := 0 }
noncomputable def fX2_begin (σ : St) (x0 : Nat) (x1 : Int32) (x2 : Int64) : Option (St) :=
(gR σ x0 2 1).bind fun v1 =>
(sL σ v1 x1 x2).bind fun σ6 =>
(gR σ6 x0 2 2).bind fun v8 =>
(sL σ6 v8 x1 x2).bind fun σ13 =>
(gR σ13 x0 2 3).bind fun v15 =>
(sI σ13 v15 x1 0).bind fun σ20 =>
some σ20
set_option maxHeartbeats 4000000 in
set_option maxRecDepth 100000 in
theorem cX2_beginc {l : Launch} {G : xG} {A : Nat → Prop} {σ : St} {x0 : Nat} {x1 : Int32} {x2 : Int64} {c : St} (hf : fX2_begin σ x0 x1 x2 = some c) : Con l yX2_begin (xws yX2_begin cX2_begin 4 none) rmX2_begin [.ref (x0), .int (x1), .long (x2)] G A σ none c := by
  refine x_start rfl (Nat.le_of_ble_eq_true rfl) (fun X _ _ _ C hE0 => ?_)
  have hE : ∀ r, c = r → xE1 X none r := fun r e => e ▸ hE0
  show V X (0, 0) σ 0 [(0, .ref (x0)), (1, .int (x1)), (2, .long (x2))] []
  unfold fX2_begin at hf
  refine x_aload_n C dX2_begin_0 1 rfl 0 rfl rfl ?_
  obtain ⟨v1, hv1, hf⟩ := x_bind hf
  refine x_getR C dX2_begin_1 4 rfl hv1 cl2 rfl w237 ?_
  refine x_iload_n C dX2_begin_4 5 rfl 1 rfl rfl ?_
  refine x_lload_n C dX2_begin_5 6 rfl 2 rfl rfl ?_
  obtain ⟨σ6, hσ6, hf⟩ := x_bind hf
  refine x_lastore C dX2_begin_6 7 rfl hσ6 ?_
  refine x_aload_n C dX2_begin_7 8 rfl 0 rfl rfl ?_
  obtain ⟨v8, hv8, hf⟩ := x_bind hf
  refine x_getR C dX2_begin_8 11 rfl hv8 cl2 rfl w240 ?_
  refine x_iload_n C dX2_begin_11 12 rfl 1 rfl rfl ?_
  refine x_lload_n C dX2_begin_12 13 rfl 2 rfl rfl ?_
  obtain ⟨σ13, hσ13, hf⟩ := x_bind hf
  refine x_lastore C dX2_begin_13 14 rfl hσ13 ?_
  refine x_aload_n C dX2_begin_14 15 rfl 0 rfl rfl ?_
  obtain ⟨v15, hv15, hf⟩ := x_bind hf
  refine x_getR C dX2_begin_15 18 rfl hv15 cl2 rfl w242 ?_
  refine x_iload_n C dX2_begin_18 19 rfl 1 rfl rfl ?_
  refine x_iconst C dX2_begin_19 20 rfl 0 (by decide) ?_
  obtain ⟨σ20, hσ20, hf⟩ := x_bind hf
  refine x_iastore C dX2_begin_20 21 rfl hσ20 ?_
  exact x_vret C (hE _ (Option.some.inj hf).symm) dX2_begin_21
theorem dX2_beginAll_0 : decode cX2_beginAll 0 = .ok (.iconst 0, 1) := by decide +kernel
theorem dX2_beginAll_1 : decode cX2_beginAll 1 = .ok (.istore_n 1, 1) := by decide +kernel
theorem dX2_beginAll_2 : decode cX2_beginAll 2 = .ok (.iload_n 1, 1) := by decide +kernel
theorem dX2_beginAll_3 : decode cX2_beginAll 3 = .ok (.bipush 6, 2) := by decide +kernel
theorem dX2_beginAll_5 : decode cX2_beginAll 5 = .ok (.if_icmp .ge 20, 3) := by decide +kernel
theorem dX2_beginAll_8 : decode cX2_beginAll 8 = .ok (.aload_n 0, 1) := by decide +kernel
theorem dX2_beginAll_9 : decode cX2_beginAll 9 = .ok (.iload_n 1, 1) := by decide +kernel
theorem dX2_beginAll_10 : decode cX2_beginAll 10 = .ok (.aload_n 0, 1) := by decide +kernel
theorem dX2_beginAll_11 : decode cX2_beginAll 11 = .ok (.getfield 22, 3) := by decide +kernel
theorem dX2_beginAll_14 : decode cX2_beginAll 14 = .ok (.iload_n 1, 1) := by decide +kernel
theorem dX2_beginAll_15 : decode cX2_beginAll 15 = .ok (.laload, 1) := by decide +kernel
theorem dX2_beginAll_16 : decode cX2_beginAll 16 = .ok (.invokevirtual 42, 3) := by decide +kernel
theorem dX2_beginAll_19 : decode cX2_beginAll 19 = .ok (.iinc 1 1, 3) := by decide +kernel
theorem dX2_beginAll_22 : decode cX2_beginAll 22 = .ok (.goto (-20), 3) := by decide +kernel
theorem dX2_beginAll_25 : decode cX2_beginAll 25 = .ok (.return_, 1) := by decide +kernel
abbrev rmX2_beginAll : Room := { frames := 1, cells := 0, slots := 0, locals := 23 }
noncomputable def fLX2_beginAll_2 (x0 : Nat) (a : Int32 × St) : Option ((Int32 × St) ⊕ (St)) :=
if ((6 : Int32)) ≤ a.1 then
(some (Sum.inr a.2))
else
((gR a.2 x0 2 2).bind fun v11 =>
(aL a.2 v11 a.1).bind fun v15 =>
(isO a.2 x0 2).bind fun _ =>
(fX2_begin a.2 x0 a.1 v15).bind fun w16 =>
xlet (a.1 + 1) fun v19 =>
some (Sum.inl (v19, w16)))
set_option maxHeartbeats 4000000 in
set_option maxRecDepth 100000 in
theorem lpX2_beginAll_2 {X : xX} {x0 : Nat}  {a0 : Int32 × St} {b : St} (C : Ok X cX2_beginAll 2 RX2 rmX2_beginAll none) (hb : iterP (fLX2_beginAll_2 x0) a0 = some b) (hy0 : ∀ s, b = s → V X (0, 0) s 25 [] []) : V X (0, 0) a0.2 2 [(0, .ref (x0)), (1, .int (a0.1))] [] := by
  obtain ⟨n, hn⟩ := iterP_some hb
  refine x_loop (P := fun a => V X (0, 0) a.2 2 [(0, .ref (x0)), (1, .int (a.1))] []) ?_ n a0 hn
  intro a c hf hK hxx
  have hx0 : ∀ s, c = Sum.inr s → V X (0, 0) s 25 [] [] := fun s e => hy0 s (hxx _ e).symm
  unfold fLX2_beginAll_2 at hf
  refine x_iload_n C dX2_beginAll_2 3 rfl 1 rfl rfl ?_
  refine x_bipush C dX2_beginAll_3 5 rfl 6 (by decide) ?_
  refine x_icmp_ge C dX2_beginAll_5 25 (by decide) 8 rfl (fun hc => ?_) (fun hc => ?_)
  · have hf := (if_pos hc).symm.trans hf
    refine x_lv [] (lv' := []) rfl ?_
    exact hx0 _ (Option.some.inj hf).symm
  · have hf := (if_neg hc).symm.trans hf
    refine x_aload_n C dX2_beginAll_8 9 rfl 0 rfl rfl ?_
    refine x_iload_n C dX2_beginAll_9 10 rfl 1 rfl rfl ?_
    refine x_aload_n C dX2_beginAll_10 11 rfl 0 rfl rfl ?_
    obtain ⟨v11, hv11, hf⟩ := x_bind hf
    refine x_getR C dX2_beginAll_11 14 rfl hv11 cl2 rfl w240 ?_
    refine x_iload_n C dX2_beginAll_14 15 rfl 1 rfl rfl ?_
    obtain ⟨v15, hv15, hf⟩ := x_bind hf
    refine x_laload C dX2_beginAll_15 16 rfl hv15 ?_
    obtain ⟨o16, ho16, hf⟩ := x_bind hf
    obtain ⟨w16, hw16, hf⟩ := x_bind hf
    refine x_callVv C dX2_beginAll_16 19 rfl ho16 cl2.1 rfl (cX2_beginc hw16) kX2_begin kvX2_begin w696 ⟨rfl, rfl⟩ ⟨Nat.le_of_ble_eq_true rfl, Nat.le_of_ble_eq_true rfl⟩ ⟨Nat.zero_le _, Nat.zero_le _⟩ rfl rfl (Nat.le_of_ble_eq_true rfl) ?_
    obtain ⟨v19, ev19, hf⟩ := xlet_some hf
    refine x_iinc C dX2_beginAll_19 22 rfl 1 rfl v19 ev19 rfl [(1, .int (v19)), (0, .ref (x0))] rfl ?_
    refine x_goto C dX2_beginAll_22 2 (by decide) ?_
    refine x_lv [1, 0] (lv' := [(0, .ref (x0)), (1, .int (v19))]) rfl ?_
    exact hK _ (Option.some.inj hf).symm
noncomputable def fX2_beginAll (σ : St) (x0 : Nat) : Option (St) :=
(iterP (fLX2_beginAll_2 x0) (0, σ)).bind fun b2 =>
some b2
set_option maxHeartbeats 4000000 in
set_option maxRecDepth 100000 in
theorem cX2_beginAllc {l : Launch} {G : xG} {A : Nat → Prop} {σ : St} {x0 : Nat} {c : St} (hf : fX2_beginAll σ x0 = some c) : Con l yX2_beginAll (xws yX2_beginAll cX2_beginAll 2 none) rmX2_beginAll [.ref (x0)] G A σ none c := by
  refine x_start rfl (Nat.le_of_ble_eq_true rfl) (fun X _ _ _ C hE0 => ?_)
  have hE : ∀ r, c = r → xE1 X none r := fun r e => e ▸ hE0
  show V X (0, 0) σ 0 [(0, .ref (x0))] []
  unfold fX2_beginAll at hf
  refine x_iconst C dX2_beginAll_0 1 rfl 0 (by decide) ?_
  refine x_istore_n C dX2_beginAll_1 2 rfl rfl rfl [(1, .int (0)), (0, .ref (x0))] rfl ?_
  obtain ⟨b2, hb2, hf⟩ := x_bind hf
  refine x_lv [1, 0] (lv' := [(0, .ref (x0)), (1, .int (0))]) rfl ?_
  refine lpX2_beginAll_2 C hb2 (fun s2 e2 => ?_)
  subst e2
  exact x_vret C (hE _ (Option.some.inj hf).symm) dX2_beginAll_25
theorem dX8_drop_0 : decode cX8_drop 0 = .ok (.iload_n 1, 1) := by decide +kernel
theorem dX8_drop_1 : decode cX8_drop 1 = .ok (.istore_n 2, 1) := by decide +kernel
theorem dX8_drop_2 : decode cX8_drop 2 = .ok (.iload_n 2, 1) := by decide +kernel
theorem dX8_drop_3 : decode cX8_drop 3 = .ok (.aload_n 0, 1) := by decide +kernel
theorem dX8_drop_4 : decode cX8_drop 4 = .ok (.getfield 15, 3) := by decide +kernel
theorem dX8_drop_7 : decode cX8_drop 7 = .ok (.iconst 1, 1) := by decide +kernel
theorem dX8_drop_8 : decode cX8_drop 8 = .ok (.isub, 1) := by decide +kernel
theorem dX8_drop_9 : decode cX8_drop 9 = .ok (.if_icmp .ge 37, 3) := by decide +kernel
theorem dX8_drop_12 : decode cX8_drop 12 = .ok (.aload_n 0, 1) := by decide +kernel
theorem dX8_drop_13 : decode cX8_drop 13 = .ok (.getfield 18, 3) := by decide +kernel
theorem dX8_drop_16 : decode cX8_drop 16 = .ok (.iload_n 2, 1) := by decide +kernel
theorem dX8_drop_17 : decode cX8_drop 17 = .ok (.aload_n 0, 1) := by decide +kernel
theorem dX8_drop_18 : decode cX8_drop 18 = .ok (.getfield 18, 3) := by decide +kernel
theorem dX8_drop_21 : decode cX8_drop 21 = .ok (.iload_n 2, 1) := by decide +kernel
theorem dX8_drop_22 : decode cX8_drop 22 = .ok (.iconst 1, 1) := by decide +kernel
theorem dX8_drop_23 : decode cX8_drop 23 = .ok (.iadd, 1) := by decide +kernel
theorem dX8_drop_24 : decode cX8_drop 24 = .ok (.laload, 1) := by decide +kernel
theorem dX8_drop_25 : decode cX8_drop 25 = .ok (.lastore, 1) := by decide +kernel
theorem dX8_drop_26 : decode cX8_drop 26 = .ok (.aload_n 0, 1) := by decide +kernel
theorem dX8_drop_27 : decode cX8_drop 27 = .ok (.getfield 22, 3) := by decide +kernel
theorem dX8_drop_30 : decode cX8_drop 30 = .ok (.iload_n 2, 1) := by decide +kernel
theorem dX8_drop_31 : decode cX8_drop 31 = .ok (.aload_n 0, 1) := by decide +kernel
theorem dX8_drop_32 : decode cX8_drop 32 = .ok (.getfield 22, 3) := by decide +kernel
theorem dX8_drop_35 : decode cX8_drop 35 = .ok (.iload_n 2, 1) := by decide +kernel
theorem dX8_drop_36 : decode cX8_drop 36 = .ok (.iconst 1, 1) := by decide +kernel
theorem dX8_drop_37 : decode cX8_drop 37 = .ok (.iadd, 1) := by decide +kernel
theorem dX8_drop_38 : decode cX8_drop 38 = .ok (.laload, 1) := by decide +kernel
theorem dX8_drop_39 : decode cX8_drop 39 = .ok (.lastore, 1) := by decide +kernel
theorem dX8_drop_40 : decode cX8_drop 40 = .ok (.iinc 2 1, 3) := by decide +kernel
theorem dX8_drop_43 : decode cX8_drop 43 = .ok (.goto (-41), 3) := by decide +kernel
theorem dX8_drop_46 : decode cX8_drop 46 = .ok (.aload_n 0, 1) := by decide +kernel
theorem dX8_drop_47 : decode cX8_drop 47 = .ok (.dup, 1) := by decide +kernel
theorem dX8_drop_48 : decode cX8_drop 48 = .ok (.getfield 15, 3) := by decide +kernel
theorem dX8_drop_51 : decode cX8_drop 51 = .ok (.iconst 1, 1) := by decide +kernel
theorem dX8_drop_52 : decode cX8_drop 52 = .ok (.isub, 1) := by decide +kernel
theorem dX8_drop_53 : decode cX8_drop 53 = .ok (.putfield 15, 3) := by decide +kernel
theorem dX8_drop_56 : decode cX8_drop 56 = .ok (.aload_n 0, 1) := by decide +kernel
theorem dX8_drop_57 : decode cX8_drop 57 = .ok (.dup, 1) := by decide +kernel
theorem dX8_drop_58 : decode cX8_drop 58 = .ok (.getfield 32, 3) := by decide +kernel
theorem dX8_drop_61 : decode cX8_drop 61 = .ok (.iconst 1, 1) := by decide +kernel
theorem dX8_drop_62 : decode cX8_drop 62 = .ok (.iadd, 1) := by decide +kernel
theorem dX8_drop_63 : decode cX8_drop 63 = .ok (.putfield 32, 3) := by decide +kernel
theorem dX8_drop_66 : decode cX8_drop 66 = .ok (.return_, 1) := by decide +kernel
abbrev rmX8_drop : Room := { frames := 0, cells := 0, slots := 0, locals := 0 }
noncomputable def fLX8_drop_2 (x0 : Nat) (a : Int32 × St) : Option ((Int32 × St) ⊕ (St)) :=
(gI a.2 x0 8 1).bind fun v4 =>
if (v4 - 1) ≤ a.1 then
(some (Sum.inr a.2))
else
((gR a.2 x0 8 2).bind fun v13 =>
(gR a.2 x0 8 2).bind fun v18 =>
(aL a.2 v18 (a.1 + 1)).bind fun v24 =>
(sL a.2 v13 a.1 v24).bind fun σ25 =>
(gR σ25 x0 8 3).bind fun v27 =>
(gR σ25 x0 8 3).bind fun v32 =>
(aL σ25 v32 (a.1 + 1)).bind fun v38 =>
(sL σ25 v27 a.1 v38).bind fun σ39 =>
xlet (a.1 + 1) fun v40 =>
some (Sum.inl (v40, σ39)))
set_option maxHeartbeats 4000000 in
set_option maxRecDepth 100000 in
theorem lpX8_drop_2 {X : xX} {x0 : Nat}  {a0 : Int32 × St} {b : St} (C : Ok X cX8_drop 3 RX8 rmX8_drop none) (hb : iterP (fLX8_drop_2 x0) a0 = some b) (hy0 : ∀ s, b = s → V X (0, 0) s 46 [(0, .ref (x0))] []) : V X (0, 0) a0.2 2 [(0, .ref (x0)), (2, .int (a0.1))] [] := by
  obtain ⟨n, hn⟩ := iterP_some hb
  refine x_loop (P := fun a => V X (0, 0) a.2 2 [(0, .ref (x0)), (2, .int (a.1))] []) ?_ n a0 hn
  intro a c hf hK hxx
  have hx0 : ∀ s, c = Sum.inr s → V X (0, 0) s 46 [(0, .ref (x0))] [] := fun s e => hy0 s (hxx _ e).symm
  unfold fLX8_drop_2 at hf
  refine x_iload_n C dX8_drop_2 3 rfl 1 rfl rfl ?_
  refine x_aload_n C dX8_drop_3 4 rfl 0 rfl rfl ?_
  obtain ⟨v4, hv4, hf⟩ := x_bind hf
  refine x_getI C dX8_drop_4 7 rfl hv4 cl8 rfl w182 ?_
  refine x_iconst C dX8_drop_7 8 rfl 1 (by decide) ?_
  refine x_isub C dX8_drop_8 9 rfl ?_
  refine x_icmp_ge C dX8_drop_9 46 (by decide) 12 rfl (fun hc => ?_) (fun hc => ?_)
  · have hf := (if_pos hc).symm.trans hf
    refine x_lv [0] (lv' := [(0, .ref (x0))]) rfl ?_
    exact hx0 _ (Option.some.inj hf).symm
  · have hf := (if_neg hc).symm.trans hf
    refine x_aload_n C dX8_drop_12 13 rfl 0 rfl rfl ?_
    obtain ⟨v13, hv13, hf⟩ := x_bind hf
    refine x_getR C dX8_drop_13 16 rfl hv13 cl8 rfl w189 ?_
    refine x_iload_n C dX8_drop_16 17 rfl 1 rfl rfl ?_
    refine x_aload_n C dX8_drop_17 18 rfl 0 rfl rfl ?_
    obtain ⟨v18, hv18, hf⟩ := x_bind hf
    refine x_getR C dX8_drop_18 21 rfl hv18 cl8 rfl w189 ?_
    refine x_iload_n C dX8_drop_21 22 rfl 1 rfl rfl ?_
    refine x_iconst C dX8_drop_22 23 rfl 1 (by decide) ?_
    refine x_iadd C dX8_drop_23 24 rfl ?_
    obtain ⟨v24, hv24, hf⟩ := x_bind hf
    refine x_laload C dX8_drop_24 25 rfl hv24 ?_
    obtain ⟨σ25, hσ25, hf⟩ := x_bind hf
    refine x_lastore C dX8_drop_25 26 rfl hσ25 ?_
    refine x_aload_n C dX8_drop_26 27 rfl 0 rfl rfl ?_
    obtain ⟨v27, hv27, hf⟩ := x_bind hf
    refine x_getR C dX8_drop_27 30 rfl hv27 cl8 rfl w196 ?_
    refine x_iload_n C dX8_drop_30 31 rfl 1 rfl rfl ?_
    refine x_aload_n C dX8_drop_31 32 rfl 0 rfl rfl ?_
    obtain ⟨v32, hv32, hf⟩ := x_bind hf
    refine x_getR C dX8_drop_32 35 rfl hv32 cl8 rfl w196 ?_
    refine x_iload_n C dX8_drop_35 36 rfl 1 rfl rfl ?_
    refine x_iconst C dX8_drop_36 37 rfl 1 (by decide) ?_
    refine x_iadd C dX8_drop_37 38 rfl ?_
    obtain ⟨v38, hv38, hf⟩ := x_bind hf
    refine x_laload C dX8_drop_38 39 rfl hv38 ?_
    obtain ⟨σ39, hσ39, hf⟩ := x_bind hf
    refine x_lastore C dX8_drop_39 40 rfl hσ39 ?_
    obtain ⟨v40, ev40, hf⟩ := xlet_some hf
    refine x_iinc C dX8_drop_40 43 rfl 1 rfl v40 ev40 rfl [(2, .int (v40)), (0, .ref (x0))] rfl ?_
    refine x_goto C dX8_drop_43 2 (by decide) ?_
    refine x_lv [1, 0] (lv' := [(0, .ref (x0)), (2, .int (v40))]) rfl ?_
    exact hK _ (Option.some.inj hf).symm
noncomputable def fX8_drop (σ : St) (x0 : Nat) (x1 : Int32) : Option (St) :=
(iterP (fLX8_drop_2 x0) (x1, σ)).bind fun b2 =>
(gI b2 x0 8 1).bind fun v48 =>
(wrF b2 x0 8 1 (.int (v48 - 1))).bind fun σ53 =>
(gI σ53 x0 8 6).bind fun v58 =>
(wrF σ53 x0 8 6 (.int (v58 + 1))).bind fun σ63 =>
some σ63
set_option maxHeartbeats 4000000 in
set_option maxRecDepth 100000 in
theorem cX8_dropc {l : Launch} {G : xG} {A : Nat → Prop} {σ : St} {x0 : Nat} {x1 : Int32} {c : St} (hf : fX8_drop σ x0 x1 = some c) : Con l yX8_drop (xws yX8_drop cX8_drop 3 none) rmX8_drop [.ref (x0), .int (x1)] G A σ none c := by
  refine x_start rfl (Nat.le_of_ble_eq_true rfl) (fun X _ _ _ C hE0 => ?_)
  have hE : ∀ r, c = r → xE1 X none r := fun r e => e ▸ hE0
  show V X (0, 0) σ 0 [(0, .ref (x0)), (1, .int (x1))] []
  unfold fX8_drop at hf
  refine x_iload_n C dX8_drop_0 1 rfl 1 rfl rfl ?_
  refine x_istore_n C dX8_drop_1 2 rfl rfl rfl [(2, .int (x1)), (0, .ref (x0)), (1, .int (x1))] rfl ?_
  obtain ⟨b2, hb2, hf⟩ := x_bind hf
  refine x_lv [1, 0] (lv' := [(0, .ref (x0)), (2, .int (x1))]) rfl ?_
  refine lpX8_drop_2 C hb2 (fun s2 e2 => ?_)
  subst e2
  refine x_aload_n C dX8_drop_46 47 rfl 0 rfl rfl ?_
  refine x_dup C dX8_drop_47 48 rfl rfl ?_
  obtain ⟨v48, hv48, hf⟩ := x_bind hf
  refine x_getI C dX8_drop_48 51 rfl hv48 cl8 rfl w182 ?_
  refine x_iconst C dX8_drop_51 52 rfl 1 (by decide) ?_
  refine x_isub C dX8_drop_52 53 rfl ?_
  obtain ⟨σ53, hσ53, hf⟩ := x_bind hf
  refine x_putX C dX8_drop_53 56 rfl hσ53 cl8 rfl w182 rfl rfl rfl ?_
  refine x_aload_n C dX8_drop_56 57 rfl 0 rfl rfl ?_
  refine x_dup C dX8_drop_57 58 rfl rfl ?_
  obtain ⟨v58, hv58, hf⟩ := x_bind hf
  refine x_getI C dX8_drop_58 61 rfl hv58 cl8 rfl w208 ?_
  refine x_iconst C dX8_drop_61 62 rfl 1 (by decide) ?_
  refine x_iadd C dX8_drop_62 63 rfl ?_
  obtain ⟨σ63, hσ63, hf⟩ := x_bind hf
  refine x_putX C dX8_drop_63 66 rfl hσ63 cl8 rfl w208 rfl rfl rfl ?_
  exact x_vret C (hE _ (Option.some.inj hf).symm) dX8_drop_66
theorem dX8_firstCovered_0 : decode cX8_firstCovered 0 = .ok (.iconst 0, 1) := by decide +kernel
theorem dX8_firstCovered_1 : decode cX8_firstCovered 1 = .ok (.istore_n 1, 1) := by decide +kernel
theorem dX8_firstCovered_2 : decode cX8_firstCovered 2 = .ok (.iload_n 1, 1) := by decide +kernel
theorem dX8_firstCovered_3 : decode cX8_firstCovered 3 = .ok (.aload_n 0, 1) := by decide +kernel
theorem dX8_firstCovered_4 : decode cX8_firstCovered 4 = .ok (.getfield 15, 3) := by decide +kernel
theorem dX8_firstCovered_7 : decode cX8_firstCovered 7 = .ok (.if_icmp .ge 50, 3) := by decide +kernel
theorem dX8_firstCovered_10 : decode cX8_firstCovered 10 = .ok (.iconst 0, 1) := by decide +kernel
theorem dX8_firstCovered_11 : decode cX8_firstCovered 11 = .ok (.istore_n 2, 1) := by decide +kernel
theorem dX8_firstCovered_12 : decode cX8_firstCovered 12 = .ok (.iload_n 2, 1) := by decide +kernel
theorem dX8_firstCovered_13 : decode cX8_firstCovered 13 = .ok (.aload_n 0, 1) := by decide +kernel
theorem dX8_firstCovered_14 : decode cX8_firstCovered 14 = .ok (.getfield 15, 3) := by decide +kernel
theorem dX8_firstCovered_17 : decode cX8_firstCovered 17 = .ok (.if_icmp .ge 34, 3) := by decide +kernel
theorem dX8_firstCovered_20 : decode cX8_firstCovered 20 = .ok (.iload_n 2, 1) := by decide +kernel
theorem dX8_firstCovered_21 : decode cX8_firstCovered 21 = .ok (.iload_n 1, 1) := by decide +kernel
theorem dX8_firstCovered_22 : decode cX8_firstCovered 22 = .ok (.if_icmp .eq 23, 3) := by decide +kernel
theorem dX8_firstCovered_25 : decode cX8_firstCovered 25 = .ok (.aload_n 0, 1) := by decide +kernel
theorem dX8_firstCovered_26 : decode cX8_firstCovered 26 = .ok (.getfield 18, 3) := by decide +kernel
theorem dX8_firstCovered_29 : decode cX8_firstCovered 29 = .ok (.iload_n 1, 1) := by decide +kernel
theorem dX8_firstCovered_30 : decode cX8_firstCovered 30 = .ok (.laload, 1) := by decide +kernel
theorem dX8_firstCovered_31 : decode cX8_firstCovered 31 = .ok (.aload_n 0, 1) := by decide +kernel
theorem dX8_firstCovered_32 : decode cX8_firstCovered 32 = .ok (.getfield 18, 3) := by decide +kernel
theorem dX8_firstCovered_35 : decode cX8_firstCovered 35 = .ok (.iload_n 2, 1) := by decide +kernel
theorem dX8_firstCovered_36 : decode cX8_firstCovered 36 = .ok (.laload, 1) := by decide +kernel
theorem dX8_firstCovered_37 : decode cX8_firstCovered 37 = .ok (.invokestatic 125, 3) := by decide +kernel
theorem dX8_firstCovered_40 : decode cX8_firstCovered 40 = .ok (.ifCond .eq 5, 3) := by decide +kernel
theorem dX8_firstCovered_43 : decode cX8_firstCovered 43 = .ok (.iload_n 1, 1) := by decide +kernel
theorem dX8_firstCovered_44 : decode cX8_firstCovered 44 = .ok (.ireturn, 1) := by decide +kernel
theorem dX8_firstCovered_45 : decode cX8_firstCovered 45 = .ok (.iinc 2 1, 3) := by decide +kernel
theorem dX8_firstCovered_48 : decode cX8_firstCovered 48 = .ok (.goto (-36), 3) := by decide +kernel
theorem dX8_firstCovered_51 : decode cX8_firstCovered 51 = .ok (.iinc 1 1, 3) := by decide +kernel
theorem dX8_firstCovered_54 : decode cX8_firstCovered 54 = .ok (.goto (-52), 3) := by decide +kernel
theorem dX8_firstCovered_57 : decode cX8_firstCovered 57 = .ok (.iconst (-1), 1) := by decide +kernel
theorem dX8_firstCovered_58 : decode cX8_firstCovered 58 = .ok (.ireturn, 1) := by decide +kernel
abbrev rmX8_firstCovered : Room := { frames := 2, cells := 0, slots := 0, locals := 50 }
noncomputable def fLX8_firstCovered_12 (σ : St) (x0 : Nat) (x1 : Int32) (a : Int32) : Option ((Int32) ⊕ ((Unit) ⊕ (Unit))) :=
(gI σ x0 8 1).bind fun v14 =>
if v14 ≤ a then
(some (Sum.inr (Sum.inr ())))
else
(if a = x1 then
(xlet (a + 1) fun v45 =>
some (Sum.inl v45))
else
((gR σ x0 8 2).bind fun v26 =>
(aL σ v26 x1).bind fun v30 =>
(gR σ x0 8 2).bind fun v32 =>
(aL σ v32 a).bind fun v36 =>
(fX10_holds v30 v36).bind fun w37 =>
if w37 = 0 then
(xlet (a + 1) fun v45 =>
some (Sum.inl v45))
else
(some (Sum.inr (Sum.inl ())))))
set_option maxHeartbeats 4000000 in
set_option maxRecDepth 100000 in
theorem lpX8_firstCovered_12 {X : xX} {σ : St} {x0 : Nat} {x1 : Int32}  {a0 : Int32} {b : (Unit) ⊕ (Unit)} (C : Ok X cX8_firstCovered 3 RX8 rmX8_firstCovered (some .int)) (hb : iterP (fLX8_firstCovered_12 σ x0 x1) a0 = some b) (hy0 : ∀ s, b = (Sum.inl s) → V X (0, 0) σ 43 [(1, .int (x1))] []) (hy1 : ∀ s, b = (Sum.inr s) → V X (0, 0) σ 51 [(0, .ref (x0)), (1, .int (x1))] []) : V X (0, 0) σ 12 [(0, .ref (x0)), (1, .int (x1)), (2, .int (a0))] [] := by
  obtain ⟨n, hn⟩ := iterP_some hb
  refine x_loop (P := fun a => V X (0, 0) σ 12 [(0, .ref (x0)), (1, .int (x1)), (2, .int (a))] []) ?_ n a0 hn
  intro a c hf hK hxx
  have hx0 : ∀ s, c = Sum.inr (Sum.inl s) → V X (0, 0) σ 43 [(1, .int (x1))] [] := fun s e => hy0 s (hxx _ e).symm
  have hx1 : ∀ s, c = Sum.inr (Sum.inr s) → V X (0, 0) σ 51 [(0, .ref (x0)), (1, .int (x1))] [] := fun s e => hy1 s (hxx _ e).symm
  unfold fLX8_firstCovered_12 at hf
  refine x_iload_n C dX8_firstCovered_12 13 rfl 2 rfl rfl ?_
  refine x_aload_n C dX8_firstCovered_13 14 rfl 0 rfl rfl ?_
  obtain ⟨v14, hv14, hf⟩ := x_bind hf
  refine x_getI C dX8_firstCovered_14 17 rfl hv14 cl8 rfl w182 ?_
  refine x_icmp_ge C dX8_firstCovered_17 51 (by decide) 20 rfl (fun hc => ?_) (fun hc => ?_)
  · have hf := (if_pos hc).symm.trans hf
    refine x_lv [0, 1] (lv' := [(0, .ref (x0)), (1, .int (x1))]) rfl ?_
    exact hx1 _ (Option.some.inj hf).symm
  · have hf := (if_neg hc).symm.trans hf
    refine x_iload_n C dX8_firstCovered_20 21 rfl 2 rfl rfl ?_
    refine x_iload_n C dX8_firstCovered_21 22 rfl 1 rfl rfl ?_
    refine x_icmp_eq C dX8_firstCovered_22 45 (by decide) 25 rfl (fun hc => ?_) (fun hc => ?_)
    · have hf := (if_pos hc).symm.trans hf
      obtain ⟨v45, ev45, hf⟩ := xlet_some hf
      refine x_iinc C dX8_firstCovered_45 48 rfl 2 rfl v45 ev45 rfl [(2, .int (v45)), (0, .ref (x0)), (1, .int (x1))] rfl ?_
      refine x_goto C dX8_firstCovered_48 12 (by decide) ?_
      refine x_lv [1, 2, 0] (lv' := [(0, .ref (x0)), (1, .int (x1)), (2, .int (v45))]) rfl ?_
      exact hK _ (Option.some.inj hf).symm
    · have hf := (if_neg hc).symm.trans hf
      refine x_aload_n C dX8_firstCovered_25 26 rfl 0 rfl rfl ?_
      obtain ⟨v26, hv26, hf⟩ := x_bind hf
      refine x_getR C dX8_firstCovered_26 29 rfl hv26 cl8 rfl w189 ?_
      refine x_iload_n C dX8_firstCovered_29 30 rfl 1 rfl rfl ?_
      obtain ⟨v30, hv30, hf⟩ := x_bind hf
      refine x_laload C dX8_firstCovered_30 31 rfl hv30 ?_
      refine x_aload_n C dX8_firstCovered_31 32 rfl 0 rfl rfl ?_
      obtain ⟨v32, hv32, hf⟩ := x_bind hf
      refine x_getR C dX8_firstCovered_32 35 rfl hv32 cl8 rfl w189 ?_
      refine x_iload_n C dX8_firstCovered_35 36 rfl 2 rfl rfl ?_
      obtain ⟨v36, hv36, hf⟩ := x_bind hf
      refine x_laload C dX8_firstCovered_36 37 rfl hv36 ?_
      obtain ⟨w37, hw37, hf⟩ := x_bind hf
      refine x_callSi C dX8_firstCovered_37 40 rfl (cX10_holdsc hw37) kX10_holds ksX10_holds w643 ⟨rfl, rfl⟩ ⟨Nat.le_of_ble_eq_true rfl, Nat.le_of_ble_eq_true rfl⟩ ⟨Nat.zero_le _, Nat.zero_le _⟩ rfl rfl (Nat.le_of_ble_eq_true rfl) ?_
      refine x_if_eq C dX8_firstCovered_40 45 (by decide) 43 rfl (fun hc => ?_) (fun hc => ?_)
      · have hf := (if_pos hc).symm.trans hf
        obtain ⟨v45, ev45, hf⟩ := xlet_some hf
        refine x_iinc C dX8_firstCovered_45 48 rfl 2 rfl v45 ev45 rfl [(2, .int (v45)), (0, .ref (x0)), (1, .int (x1))] rfl ?_
        refine x_goto C dX8_firstCovered_48 12 (by decide) ?_
        refine x_lv [1, 2, 0] (lv' := [(0, .ref (x0)), (1, .int (x1)), (2, .int (v45))]) rfl ?_
        exact hK _ (Option.some.inj hf).symm
      · have hf := (if_neg hc).symm.trans hf
        refine x_lv [1] (lv' := [(1, .int (x1))]) rfl ?_
        exact hx0 _ (Option.some.inj hf).symm
noncomputable def fLX8_firstCovered_2 (σ : St) (x0 : Nat) (a : Int32) : Option ((Int32) ⊕ ((Int32) ⊕ (Unit))) :=
(gI σ x0 8 1).bind fun v4 =>
if v4 ≤ a then
(some (Sum.inr (Sum.inr ())))
else
((iterP (fLX8_firstCovered_12 σ x0 a) 0).bind fun b12 =>
(match b12 with
| .inl s12 =>
some (Sum.inr (Sum.inl a))
| .inr s12 =>
xlet (a + 1) fun v51 =>
some (Sum.inl v51)))
set_option maxHeartbeats 4000000 in
set_option maxRecDepth 100000 in
theorem lpX8_firstCovered_2 {X : xX} {σ : St} {x0 : Nat}  {a0 : Int32} {b : (Int32) ⊕ (Unit)} (C : Ok X cX8_firstCovered 3 RX8 rmX8_firstCovered (some .int)) (hb : iterP (fLX8_firstCovered_2 σ x0) a0 = some b) (hy0 : ∀ s, b = (Sum.inl s) → V X (0, 0) σ 43 [(1, .int (s))] []) (hy1 : ∀ s, b = (Sum.inr s) → V X (0, 0) σ 57 [] []) : V X (0, 0) σ 2 [(0, .ref (x0)), (1, .int (a0))] [] := by
  obtain ⟨n, hn⟩ := iterP_some hb
  refine x_loop (P := fun a => V X (0, 0) σ 2 [(0, .ref (x0)), (1, .int (a))] []) ?_ n a0 hn
  intro a c hf hK hxx
  have hx0 : ∀ s, c = Sum.inr (Sum.inl s) → V X (0, 0) σ 43 [(1, .int (s))] [] := fun s e => hy0 s (hxx _ e).symm
  have hx1 : ∀ s, c = Sum.inr (Sum.inr s) → V X (0, 0) σ 57 [] [] := fun s e => hy1 s (hxx _ e).symm
  unfold fLX8_firstCovered_2 at hf
  refine x_iload_n C dX8_firstCovered_2 3 rfl 1 rfl rfl ?_
  refine x_aload_n C dX8_firstCovered_3 4 rfl 0 rfl rfl ?_
  obtain ⟨v4, hv4, hf⟩ := x_bind hf
  refine x_getI C dX8_firstCovered_4 7 rfl hv4 cl8 rfl w182 ?_
  refine x_icmp_ge C dX8_firstCovered_7 57 (by decide) 10 rfl (fun hc => ?_) (fun hc => ?_)
  · have hf := (if_pos hc).symm.trans hf
    refine x_lv [] (lv' := []) rfl ?_
    exact hx1 _ (Option.some.inj hf).symm
  · have hf := (if_neg hc).symm.trans hf
    refine x_iconst C dX8_firstCovered_10 11 rfl 0 (by decide) ?_
    refine x_istore_n C dX8_firstCovered_11 12 rfl rfl rfl [(2, .int (0)), (0, .ref (x0)), (1, .int (a))] rfl ?_
    obtain ⟨b12, hb12, hf⟩ := x_bind hf
    refine x_lv [1, 2, 0] (lv' := [(0, .ref (x0)), (1, .int (a)), (2, .int (0))]) rfl ?_
    refine lpX8_firstCovered_12 C hb12 (fun s12 e12 => ?_) (fun s12 e12 => ?_)
    · subst e12
      try dsimp only at hf
      exact hx0 _ (Option.some.inj hf).symm
    · subst e12
      try dsimp only at hf
      obtain ⟨v51, ev51, hf⟩ := xlet_some hf
      refine x_iinc C dX8_firstCovered_51 54 rfl 1 rfl v51 ev51 rfl [(1, .int (v51)), (0, .ref (x0))] rfl ?_
      refine x_goto C dX8_firstCovered_54 2 (by decide) ?_
      refine x_lv [1, 0] (lv' := [(0, .ref (x0)), (1, .int (v51))]) rfl ?_
      exact hK _ (Option.some.inj hf).symm
noncomputable def fX8_firstCovered (σ : St) (x0 : Nat) : Option (Int32) :=
(iterP (fLX8_firstCovered_2 σ x0) 0).bind fun b2 =>
(match b2 with
| .inl s2 =>
some s2
| .inr s2 =>
some (-1))
set_option maxHeartbeats 4000000 in
set_option maxRecDepth 100000 in
theorem cX8_firstCoveredc {l : Launch} {G : xG} {A : Nat → Prop} {σ : St} {x0 : Nat} {c : Int32} (hf : fX8_firstCovered σ x0 = some c) : Con l yX8_firstCovered (xws yX8_firstCovered cX8_firstCovered 3 (some .int)) rmX8_firstCovered [.ref (x0)] G A σ (some (.int c)) σ := by
  refine x_start rfl (Nat.le_of_ble_eq_true rfl) (fun X _ _ _ C hE0 => ?_)
  have hE : ∀ r, c = r → xE1 X (some (.int r)) σ := fun r e => e ▸ hE0
  show V X (0, 0) σ 0 [(0, .ref (x0))] []
  unfold fX8_firstCovered at hf
  refine x_iconst C dX8_firstCovered_0 1 rfl 0 (by decide) ?_
  refine x_istore_n C dX8_firstCovered_1 2 rfl rfl rfl [(1, .int (0)), (0, .ref (x0))] rfl ?_
  obtain ⟨b2, hb2, hf⟩ := x_bind hf
  refine x_lv [1, 0] (lv' := [(0, .ref (x0)), (1, .int (0))]) rfl ?_
  refine lpX8_firstCovered_2 C hb2 (fun s2 e2 => ?_) (fun s2 e2 => ?_)
  · subst e2
    try dsimp only at hf
    refine x_iload_n C dX8_firstCovered_43 44 rfl 0 rfl rfl ?_
    exact x_iret C (hE _ (Option.some.inj hf).symm) dX8_firstCovered_44
  · subst e2
    try dsimp only at hf
    refine x_iconst C dX8_firstCovered_57 58 rfl (-1) (by decide) ?_
    exact x_iret C (hE _ (Option.some.inj hf).symm) dX8_firstCovered_58
theorem dX8_dropCovered_0 : decode cX8_dropCovered 0 = .ok (.iconst 0, 1) := by decide +kernel
theorem dX8_dropCovered_1 : decode cX8_dropCovered 1 = .ok (.istore_n 1, 1) := by decide +kernel
theorem dX8_dropCovered_2 : decode cX8_dropCovered 2 = .ok (.aload_n 0, 1) := by decide +kernel
theorem dX8_dropCovered_3 : decode cX8_dropCovered 3 = .ok (.invokevirtual 118, 3) := by decide +kernel
theorem dX8_dropCovered_6 : decode cX8_dropCovered 6 = .ok (.istore_n 2, 1) := by decide +kernel
theorem dX8_dropCovered_7 : decode cX8_dropCovered 7 = .ok (.iload_n 2, 1) := by decide +kernel
theorem dX8_dropCovered_8 : decode cX8_dropCovered 8 = .ok (.iconst (-1), 1) := by decide +kernel
theorem dX8_dropCovered_9 : decode cX8_dropCovered 9 = .ok (.if_icmp .eq 25, 3) := by decide +kernel
theorem dX8_dropCovered_12 : decode cX8_dropCovered 12 = .ok (.iload_n 1, 1) := by decide +kernel
theorem dX8_dropCovered_13 : decode cX8_dropCovered 13 = .ok (.bipush 12, 2) := by decide +kernel
theorem dX8_dropCovered_15 : decode cX8_dropCovered 15 = .ok (.if_icmp .ge 19, 3) := by decide +kernel
theorem dX8_dropCovered_18 : decode cX8_dropCovered 18 = .ok (.aload_n 0, 1) := by decide +kernel
theorem dX8_dropCovered_19 : decode cX8_dropCovered 19 = .ok (.iload_n 2, 1) := by decide +kernel
theorem dX8_dropCovered_20 : decode cX8_dropCovered 20 = .ok (.invokevirtual 122, 3) := by decide +kernel
theorem dX8_dropCovered_23 : decode cX8_dropCovered 23 = .ok (.iinc 1 1, 3) := by decide +kernel
theorem dX8_dropCovered_26 : decode cX8_dropCovered 26 = .ok (.aload_n 0, 1) := by decide +kernel
theorem dX8_dropCovered_27 : decode cX8_dropCovered 27 = .ok (.invokevirtual 118, 3) := by decide +kernel
theorem dX8_dropCovered_30 : decode cX8_dropCovered 30 = .ok (.istore_n 2, 1) := by decide +kernel
theorem dX8_dropCovered_31 : decode cX8_dropCovered 31 = .ok (.goto (-24), 3) := by decide +kernel
theorem dX8_dropCovered_34 : decode cX8_dropCovered 34 = .ok (.iload_n 1, 1) := by decide +kernel
theorem dX8_dropCovered_35 : decode cX8_dropCovered 35 = .ok (.ireturn, 1) := by decide +kernel
abbrev rmX8_dropCovered : Room := { frames := 3, cells := 0, slots := 0, locals := 72 }
noncomputable def fLX8_dropCovered_7 (x0 : Nat) (a : Int32 × Int32 × St) : Option ((Int32 × Int32 × St) ⊕ (Int32 × St)) :=
if a.2.1 = (((-1) : Int32)) then
(some (Sum.inr (a.1, a.2.2)))
else
(if ((12 : Int32)) ≤ a.1 then
(some (Sum.inr (a.1, a.2.2)))
else
((isO a.2.2 x0 8).bind fun _ =>
(fX8_drop a.2.2 x0 a.2.1).bind fun w20 =>
xlet (a.1 + 1) fun v23 =>
(isO w20 x0 8).bind fun _ =>
(fX8_firstCovered w20 x0).bind fun w27 =>
some (Sum.inl (v23, w27, w20))))
set_option maxHeartbeats 4000000 in
set_option maxRecDepth 100000 in
theorem lpX8_dropCovered_7 {X : xX} {x0 : Nat}  {a0 : Int32 × Int32 × St} {b : Int32 × St} (C : Ok X cX8_dropCovered 3 RX8 rmX8_dropCovered (some .int)) (hb : iterP (fLX8_dropCovered_7 x0) a0 = some b) (hy0 : ∀ s, b = s → V X (0, 0) s.2 34 [(1, .int (s.1))] []) : V X (0, 0) a0.2.2 7 [(0, .ref (x0)), (1, .int (a0.1)), (2, .int (a0.2.1))] [] := by
  obtain ⟨n, hn⟩ := iterP_some hb
  refine x_loop (P := fun a => V X (0, 0) a.2.2 7 [(0, .ref (x0)), (1, .int (a.1)), (2, .int (a.2.1))] []) ?_ n a0 hn
  intro a c hf hK hxx
  have hx0 : ∀ s, c = Sum.inr s → V X (0, 0) s.2 34 [(1, .int (s.1))] [] := fun s e => hy0 s (hxx _ e).symm
  unfold fLX8_dropCovered_7 at hf
  refine x_iload_n C dX8_dropCovered_7 8 rfl 2 rfl rfl ?_
  refine x_iconst C dX8_dropCovered_8 9 rfl (-1) (by decide) ?_
  refine x_icmp_eq C dX8_dropCovered_9 34 (by decide) 12 rfl (fun hc => ?_) (fun hc => ?_)
  · have hf := (if_pos hc).symm.trans hf
    refine x_lv [1] (lv' := [(1, .int (a.1))]) rfl ?_
    exact hx0 _ (Option.some.inj hf).symm
  · have hf := (if_neg hc).symm.trans hf
    refine x_iload_n C dX8_dropCovered_12 13 rfl 1 rfl rfl ?_
    refine x_bipush C dX8_dropCovered_13 15 rfl 12 (by decide) ?_
    refine x_icmp_ge C dX8_dropCovered_15 34 (by decide) 18 rfl (fun hc => ?_) (fun hc => ?_)
    · have hf := (if_pos hc).symm.trans hf
      refine x_lv [1] (lv' := [(1, .int (a.1))]) rfl ?_
      exact hx0 _ (Option.some.inj hf).symm
    · have hf := (if_neg hc).symm.trans hf
      refine x_aload_n C dX8_dropCovered_18 19 rfl 0 rfl rfl ?_
      refine x_iload_n C dX8_dropCovered_19 20 rfl 2 rfl rfl ?_
      obtain ⟨o20, ho20, hf⟩ := x_bind hf
      obtain ⟨w20, hw20, hf⟩ := x_bind hf
      refine x_callVv C dX8_dropCovered_20 23 rfl ho20 cl8.1 rfl (cX8_dropc hw20) kX8_drop kvX8_drop w651 ⟨rfl, rfl⟩ ⟨Nat.le_of_ble_eq_true rfl, Nat.le_of_ble_eq_true rfl⟩ ⟨Nat.zero_le _, Nat.zero_le _⟩ rfl rfl (Nat.le_of_ble_eq_true rfl) ?_
      obtain ⟨v23, ev23, hf⟩ := xlet_some hf
      refine x_iinc C dX8_dropCovered_23 26 rfl 1 rfl v23 ev23 rfl [(1, .int (v23)), (0, .ref (x0)), (2, .int (a.2.1))] rfl ?_
      refine x_aload_n C dX8_dropCovered_26 27 rfl 1 rfl rfl ?_
      obtain ⟨o27, ho27, hf⟩ := x_bind hf
      obtain ⟨w27, hw27, hf⟩ := x_bind hf
      refine x_callVi C dX8_dropCovered_27 30 rfl ho27 cl8.1 rfl (cX8_firstCoveredc hw27) kX8_firstCovered kvX8_firstCovered w639 ⟨rfl, rfl⟩ ⟨Nat.le_of_ble_eq_true rfl, Nat.le_of_ble_eq_true rfl⟩ ⟨Nat.zero_le _, Nat.zero_le _⟩ rfl rfl (Nat.le_of_ble_eq_true rfl) ?_
      refine x_istore_n C dX8_dropCovered_30 31 rfl rfl rfl [(2, .int (w27)), (1, .int (v23)), (0, .ref (x0))] rfl ?_
      refine x_goto C dX8_dropCovered_31 7 (by decide) ?_
      refine x_lv [2, 1, 0] (lv' := [(0, .ref (x0)), (1, .int (v23)), (2, .int (w27))]) rfl ?_
      exact hK _ (Option.some.inj hf).symm
noncomputable def fX8_dropCovered (σ : St) (x0 : Nat) : Option ((Int32 × St)) :=
(isO σ x0 8).bind fun _ =>
(fX8_firstCovered σ x0).bind fun w3 =>
(iterP (fLX8_dropCovered_7 x0) (0, w3, σ)).bind fun b7 =>
some (b7.1, b7.2)
set_option maxHeartbeats 4000000 in
set_option maxRecDepth 100000 in
theorem cX8_dropCoveredc {l : Launch} {G : xG} {A : Nat → Prop} {σ : St} {x0 : Nat} {c : (Int32 × St)} (hf : fX8_dropCovered σ x0 = some c) : Con l yX8_dropCovered (xws yX8_dropCovered cX8_dropCovered 3 (some .int)) rmX8_dropCovered [.ref (x0)] G A σ (some (.int c.1)) c.2 := by
  refine x_start rfl (Nat.le_of_ble_eq_true rfl) (fun X _ _ _ C hE0 => ?_)
  have hE : ∀ r, c = r → xE1 X (some (.int r.1)) r.2 := fun r e => e ▸ hE0
  show V X (0, 0) σ 0 [(0, .ref (x0))] []
  unfold fX8_dropCovered at hf
  refine x_iconst C dX8_dropCovered_0 1 rfl 0 (by decide) ?_
  refine x_istore_n C dX8_dropCovered_1 2 rfl rfl rfl [(1, .int (0)), (0, .ref (x0))] rfl ?_
  refine x_aload_n C dX8_dropCovered_2 3 rfl 1 rfl rfl ?_
  obtain ⟨o3, ho3, hf⟩ := x_bind hf
  obtain ⟨w3, hw3, hf⟩ := x_bind hf
  refine x_callVi C dX8_dropCovered_3 6 rfl ho3 cl8.1 rfl (cX8_firstCoveredc hw3) kX8_firstCovered kvX8_firstCovered w639 ⟨rfl, rfl⟩ ⟨Nat.le_of_ble_eq_true rfl, Nat.le_of_ble_eq_true rfl⟩ ⟨Nat.zero_le _, Nat.zero_le _⟩ rfl rfl (Nat.le_of_ble_eq_true rfl) ?_
  refine x_istore_n C dX8_dropCovered_6 7 rfl rfl rfl [(2, .int (w3)), (1, .int (0)), (0, .ref (x0))] rfl ?_
  obtain ⟨b7, hb7, hf⟩ := x_bind hf
  refine x_lv [2, 1, 0] (lv' := [(0, .ref (x0)), (1, .int (0)), (2, .int (w3))]) rfl ?_
  refine lpX8_dropCovered_7 C hb7 (fun s7 e7 => ?_)
  subst e7
  refine x_iload_n C dX8_dropCovered_34 35 rfl 0 rfl rfl ?_
  exact x_iret C (hE _ (Option.some.inj hf).symm) dX8_dropCovered_35
theorem dX8_weighBy_0 : decode cX8_weighBy 0 = .ok (.lload_n 1, 1) := by decide +kernel
theorem dX8_weighBy_1 : decode cX8_weighBy 1 = .ok (.bipush 48, 2) := by decide +kernel
theorem dX8_weighBy_3 : decode cX8_weighBy 3 = .ok (.lushr, 1) := by decide +kernel
theorem dX8_weighBy_4 : decode cX8_weighBy 4 = .ok (.l2i, 1) := by decide +kernel
theorem dX8_weighBy_5 : decode cX8_weighBy 5 = .ok (.istore_n 3, 1) := by decide +kernel
theorem dX8_weighBy_6 : decode cX8_weighBy 6 = .ok (.iconst 0, 1) := by decide +kernel
theorem dX8_weighBy_7 : decode cX8_weighBy 7 = .ok (.istore 4, 2) := by decide +kernel
theorem dX8_weighBy_9 : decode cX8_weighBy 9 = .ok (.iconst 0, 1) := by decide +kernel
theorem dX8_weighBy_10 : decode cX8_weighBy 10 = .ok (.istore 5, 2) := by decide +kernel
theorem dX8_weighBy_12 : decode cX8_weighBy 12 = .ok (.iload 5, 2) := by decide +kernel
theorem dX8_weighBy_14 : decode cX8_weighBy 14 = .ok (.iload_n 3, 1) := by decide +kernel
theorem dX8_weighBy_15 : decode cX8_weighBy 15 = .ok (.if_icmp .ge 48, 3) := by decide +kernel
theorem dX8_weighBy_18 : decode cX8_weighBy 18 = .ok (.lload_n 1, 1) := by decide +kernel
theorem dX8_weighBy_19 : decode cX8_weighBy 19 = .ok (.iconst 3, 1) := by decide +kernel
theorem dX8_weighBy_20 : decode cX8_weighBy 20 = .ok (.iload 5, 2) := by decide +kernel
theorem dX8_weighBy_22 : decode cX8_weighBy 22 = .ok (.imul, 1) := by decide +kernel
theorem dX8_weighBy_23 : decode cX8_weighBy 23 = .ok (.lushr, 1) := by decide +kernel
theorem dX8_weighBy_24 : decode cX8_weighBy 24 = .ok (.ldc2_w 53, 3) := by decide +kernel
theorem dX8_weighBy_27 : decode cX8_weighBy 27 = .ok (.land, 1) := by decide +kernel
theorem dX8_weighBy_28 : decode cX8_weighBy 28 = .ok (.l2i, 1) := by decide +kernel
theorem dX8_weighBy_29 : decode cX8_weighBy 29 = .ok (.iconst 1, 1) := by decide +kernel
theorem dX8_weighBy_30 : decode cX8_weighBy 30 = .ok (.isub, 1) := by decide +kernel
theorem dX8_weighBy_31 : decode cX8_weighBy 31 = .ok (.istore 6, 2) := by decide +kernel
theorem dX8_weighBy_33 : decode cX8_weighBy 33 = .ok (.iload 4, 2) := by decide +kernel
theorem dX8_weighBy_35 : decode cX8_weighBy 35 = .ok (.iload 6, 2) := by decide +kernel
theorem dX8_weighBy_37 : decode cX8_weighBy 37 = .ok (.ifCond .lt 16, 3) := by decide +kernel
theorem dX8_weighBy_40 : decode cX8_weighBy 40 = .ok (.iload 6, 2) := by decide +kernel
theorem dX8_weighBy_42 : decode cX8_weighBy 42 = .ok (.iconst 5, 1) := by decide +kernel
theorem dX8_weighBy_43 : decode cX8_weighBy 43 = .ok (.if_icmp .ge 10, 3) := by decide +kernel
theorem dX8_weighBy_46 : decode cX8_weighBy 46 = .ok (.aload_n 0, 1) := by decide +kernel
theorem dX8_weighBy_47 : decode cX8_weighBy 47 = .ok (.iload 6, 2) := by decide +kernel
theorem dX8_weighBy_49 : decode cX8_weighBy 49 = .ok (.iaload, 1) := by decide +kernel
theorem dX8_weighBy_50 : decode cX8_weighBy 50 = .ok (.goto 4, 3) := by decide +kernel
theorem dX8_weighBy_53 : decode cX8_weighBy 53 = .ok (.iconst 0, 1) := by decide +kernel
theorem dX8_weighBy_54 : decode cX8_weighBy 54 = .ok (.iadd, 1) := by decide +kernel
theorem dX8_weighBy_55 : decode cX8_weighBy 55 = .ok (.istore 4, 2) := by decide +kernel
theorem dX8_weighBy_57 : decode cX8_weighBy 57 = .ok (.iinc 5 1, 3) := by decide +kernel
theorem dX8_weighBy_60 : decode cX8_weighBy 60 = .ok (.goto (-48), 3) := by decide +kernel
theorem dX8_weighBy_63 : decode cX8_weighBy 63 = .ok (.iload 4, 2) := by decide +kernel
theorem dX8_weighBy_65 : decode cX8_weighBy 65 = .ok (.ireturn, 1) := by decide +kernel
abbrev rmX8_weighBy : Room := { frames := 0, cells := 0, slots := 0, locals := 0 }
noncomputable def fLX8_weighBy_12 (σ : St) (x0 : Nat) (x1 : Int64) (x3 : Int32) (a : Int32 × Int32) : Option ((Int32 × Int32) ⊕ (Int32)) :=
if x3 ≤ a.2 then
(some (Sum.inr a.1))
else
(xlet (((((x1.toUInt64 >>> ((3 * a.2).toInt64.toUInt64 &&& Int64.toUInt64 63)).toInt64) &&& 7).toInt32) - 1) fun v31 =>
if v31 < 0 then
(xlet (a.1 + 0) fun v55 =>
xlet (a.2 + 1) fun v57 =>
some (Sum.inl (v55, v57)))
else
(if ((5 : Int32)) ≤ v31 then
(xlet (a.1 + 0) fun v55 =>
xlet (a.2 + 1) fun v57 =>
some (Sum.inl (v55, v57)))
else
((aI σ x0 0 v31).bind fun v49 =>
xlet (a.1 + v49) fun v55 =>
xlet (a.2 + 1) fun v57 =>
some (Sum.inl (v55, v57)))))
set_option maxHeartbeats 4000000 in
set_option maxRecDepth 100000 in
theorem lpX8_weighBy_12 {X : xX} {σ : St} {x0 : Nat} {x1 : Int64} {x3 : Int32}  {a0 : Int32 × Int32} {b : Int32} (C : Ok X cX8_weighBy 7 RX8 rmX8_weighBy (some .int)) (hb : iterP (fLX8_weighBy_12 σ x0 x1 x3) a0 = some b) (hy0 : ∀ s, b = s → V X (0, 0) σ 63 [(4, .int (s))] []) : V X (0, 0) σ 12 [(0, .ref (x0)), (1, .long (x1)), (3, .int (x3)), (4, .int (a0.1)), (5, .int (a0.2))] [] := by
  obtain ⟨n, hn⟩ := iterP_some hb
  refine x_loop (P := fun a => V X (0, 0) σ 12 [(0, .ref (x0)), (1, .long (x1)), (3, .int (x3)), (4, .int (a.1)), (5, .int (a.2))] []) ?_ n a0 hn
  intro a c hf hK hxx
  have hx0 : ∀ s, c = Sum.inr s → V X (0, 0) σ 63 [(4, .int (s))] [] := fun s e => hy0 s (hxx _ e).symm
  unfold fLX8_weighBy_12 at hf
  refine x_iload C dX8_weighBy_12 14 rfl 4 rfl ?_
  refine x_iload_n C dX8_weighBy_14 15 rfl 2 rfl rfl ?_
  refine x_icmp_ge C dX8_weighBy_15 63 (by decide) 18 rfl (fun hc => ?_) (fun hc => ?_)
  · have hf := (if_pos hc).symm.trans hf
    refine x_lv [3] (lv' := [(4, .int (a.1))]) rfl ?_
    exact hx0 _ (Option.some.inj hf).symm
  · have hf := (if_neg hc).symm.trans hf
    refine x_lload_n C dX8_weighBy_18 19 rfl 1 rfl rfl ?_
    refine x_iconst C dX8_weighBy_19 20 rfl 3 (by decide) ?_
    refine x_iload C dX8_weighBy_20 22 rfl 4 rfl ?_
    refine x_imul C dX8_weighBy_22 23 rfl ?_
    refine x_lushr C dX8_weighBy_23 24 rfl ?_
    refine x_ldc2 C dX8_weighBy_24 27 rfl w607 ?_
    refine x_land C dX8_weighBy_27 28 rfl ?_
    refine x_l2i C dX8_weighBy_28 29 rfl ?_
    refine x_iconst C dX8_weighBy_29 30 rfl 1 (by decide) ?_
    refine x_isub C dX8_weighBy_30 31 rfl ?_
    obtain ⟨v31, ev31, hf⟩ := xlet_some hf
    refine x_topi ev31 ?_
    refine x_istore C dX8_weighBy_31 33 rfl rfl [(6, .int (v31)), (0, .ref (x0)), (1, .long (x1)), (3, .int (x3)), (4, .int (a.1)), (5, .int (a.2))] rfl ?_
    refine x_iload C dX8_weighBy_33 35 rfl 4 rfl ?_
    refine x_iload C dX8_weighBy_35 37 rfl 0 rfl ?_
    refine x_if_lt C dX8_weighBy_37 53 (by decide) 40 rfl (fun hc => ?_) (fun hc => ?_)
    · have hf := (if_pos hc).symm.trans hf
      refine x_iconst C dX8_weighBy_53 54 rfl 0 (by decide) ?_
      refine x_iadd C dX8_weighBy_54 55 rfl ?_
      obtain ⟨v55, ev55, hf⟩ := xlet_some hf
      refine x_topi ev55 ?_
      refine x_istore C dX8_weighBy_55 57 rfl rfl [(4, .int (v55)), (6, .int (v31)), (0, .ref (x0)), (1, .long (x1)), (3, .int (x3)), (5, .int (a.2))] rfl ?_
      obtain ⟨v57, ev57, hf⟩ := xlet_some hf
      refine x_iinc C dX8_weighBy_57 60 rfl 5 rfl v57 ev57 rfl [(5, .int (v57)), (4, .int (v55)), (6, .int (v31)), (0, .ref (x0)), (1, .long (x1)), (3, .int (x3))] rfl ?_
      refine x_goto C dX8_weighBy_60 12 (by decide) ?_
      refine x_lv [3, 4, 5, 1, 0] (lv' := [(0, .ref (x0)), (1, .long (x1)), (3, .int (x3)), (4, .int (v55)), (5, .int (v57))]) rfl ?_
      exact hK _ (Option.some.inj hf).symm
    · have hf := (if_neg hc).symm.trans hf
      refine x_iload C dX8_weighBy_40 42 rfl 0 rfl ?_
      refine x_iconst C dX8_weighBy_42 43 rfl 5 (by decide) ?_
      refine x_icmp_ge C dX8_weighBy_43 53 (by decide) 46 rfl (fun hc => ?_) (fun hc => ?_)
      · have hf := (if_pos hc).symm.trans hf
        refine x_iconst C dX8_weighBy_53 54 rfl 0 (by decide) ?_
        refine x_iadd C dX8_weighBy_54 55 rfl ?_
        obtain ⟨v55, ev55, hf⟩ := xlet_some hf
        refine x_topi ev55 ?_
        refine x_istore C dX8_weighBy_55 57 rfl rfl [(4, .int (v55)), (6, .int (v31)), (0, .ref (x0)), (1, .long (x1)), (3, .int (x3)), (5, .int (a.2))] rfl ?_
        obtain ⟨v57, ev57, hf⟩ := xlet_some hf
        refine x_iinc C dX8_weighBy_57 60 rfl 5 rfl v57 ev57 rfl [(5, .int (v57)), (4, .int (v55)), (6, .int (v31)), (0, .ref (x0)), (1, .long (x1)), (3, .int (x3))] rfl ?_
        refine x_goto C dX8_weighBy_60 12 (by decide) ?_
        refine x_lv [3, 4, 5, 1, 0] (lv' := [(0, .ref (x0)), (1, .long (x1)), (3, .int (x3)), (4, .int (v55)), (5, .int (v57))]) rfl ?_
        exact hK _ (Option.some.inj hf).symm
      · have hf := (if_neg hc).symm.trans hf
        refine x_aload_n C dX8_weighBy_46 47 rfl 1 rfl rfl ?_
        refine x_iload C dX8_weighBy_47 49 rfl 0 rfl ?_
        obtain ⟨v49, hv49, hf⟩ := x_bind hf
        refine x_iaload C dX8_weighBy_49 50 rfl hv49 ?_
        refine x_goto C dX8_weighBy_50 54 (by decide) ?_
        refine x_iadd C dX8_weighBy_54 55 rfl ?_
        obtain ⟨v55, ev55, hf⟩ := xlet_some hf
        refine x_topi ev55 ?_
        refine x_istore C dX8_weighBy_55 57 rfl rfl [(4, .int (v55)), (6, .int (v31)), (0, .ref (x0)), (1, .long (x1)), (3, .int (x3)), (5, .int (a.2))] rfl ?_
        obtain ⟨v57, ev57, hf⟩ := xlet_some hf
        refine x_iinc C dX8_weighBy_57 60 rfl 5 rfl v57 ev57 rfl [(5, .int (v57)), (4, .int (v55)), (6, .int (v31)), (0, .ref (x0)), (1, .long (x1)), (3, .int (x3))] rfl ?_
        refine x_goto C dX8_weighBy_60 12 (by decide) ?_
        refine x_lv [3, 4, 5, 1, 0] (lv' := [(0, .ref (x0)), (1, .long (x1)), (3, .int (x3)), (4, .int (v55)), (5, .int (v57))]) rfl ?_
        exact hK _ (Option.some.inj hf).symm
noncomputable def fX8_weighBy (σ : St) (x0 : Nat) (x1 : Int64) : Option (Int32) :=
xlet (((x1.toUInt64 >>> ((48 : Int32).toInt64.toUInt64 &&& Int64.toUInt64 63)).toInt64).toInt32) fun v5 =>
(iterP (fLX8_weighBy_12 σ x0 x1 v5) (0, 0)).bind fun b12 =>
some b12
set_option maxHeartbeats 4000000 in
set_option maxRecDepth 100000 in
theorem cX8_weighByc {l : Launch} {G : xG} {A : Nat → Prop} {σ : St} {x0 : Nat} {x1 : Int64} {c : Int32} (hf : fX8_weighBy σ x0 x1 = some c) : Con l yX8_weighBy (xws yX8_weighBy cX8_weighBy 7 (some .int)) rmX8_weighBy [.ref (x0), .long (x1)] G A σ (some (.int c)) σ := by
  refine x_start rfl (Nat.le_of_ble_eq_true rfl) (fun X _ _ _ C hE0 => ?_)
  have hE : ∀ r, c = r → xE1 X (some (.int r)) σ := fun r e => e ▸ hE0
  show V X (0, 0) σ 0 [(0, .ref (x0)), (1, .long (x1))] []
  unfold fX8_weighBy at hf
  refine x_lload_n C dX8_weighBy_0 1 rfl 1 rfl rfl ?_
  refine x_bipush C dX8_weighBy_1 3 rfl 48 (by decide) ?_
  refine x_lushr C dX8_weighBy_3 4 rfl ?_
  refine x_l2i C dX8_weighBy_4 5 rfl ?_
  obtain ⟨v5, ev5, hf⟩ := xlet_some hf
  refine x_topi ev5 ?_
  refine x_istore_n C dX8_weighBy_5 6 rfl rfl rfl [(3, .int (v5)), (0, .ref (x0)), (1, .long (x1))] rfl ?_
  refine x_iconst C dX8_weighBy_6 7 rfl 0 (by decide) ?_
  refine x_istore C dX8_weighBy_7 9 rfl rfl [(4, .int (0)), (3, .int (v5)), (0, .ref (x0)), (1, .long (x1))] rfl ?_
  refine x_iconst C dX8_weighBy_9 10 rfl 0 (by decide) ?_
  refine x_istore C dX8_weighBy_10 12 rfl rfl [(5, .int (0)), (4, .int (0)), (3, .int (v5)), (0, .ref (x0)), (1, .long (x1))] rfl ?_
  obtain ⟨b12, hb12, hf⟩ := x_bind hf
  refine x_lv [3, 4, 2, 1, 0] (lv' := [(0, .ref (x0)), (1, .long (x1)), (3, .int (v5)), (4, .int (0)), (5, .int (0))]) rfl ?_
  refine lpX8_weighBy_12 C hb12 (fun s12 e12 => ?_)
  subst e12
  refine x_iload C dX8_weighBy_63 65 rfl 0 rfl ?_
  exact x_iret C (hE _ (Option.some.inj hf).symm) dX8_weighBy_65
theorem dX8_order_0 : decode cX8_order 0 = .ok (.aload_n 0, 1) := by decide +kernel
theorem dX8_order_1 : decode cX8_order 1 = .ok (.getfield 25, 3) := by decide +kernel
theorem dX8_order_4 : decode cX8_order 4 = .ok (.lload_n 1, 1) := by decide +kernel
theorem dX8_order_5 : decode cX8_order 5 = .ok (.invokestatic 55, 3) := by decide +kernel
theorem dX8_order_8 : decode cX8_order 8 = .ok (.istore 5, 2) := by decide +kernel
theorem dX8_order_10 : decode cX8_order 10 = .ok (.aload_n 0, 1) := by decide +kernel
theorem dX8_order_11 : decode cX8_order 11 = .ok (.getfield 25, 3) := by decide +kernel
theorem dX8_order_14 : decode cX8_order 14 = .ok (.lload_n 3, 1) := by decide +kernel
theorem dX8_order_15 : decode cX8_order 15 = .ok (.invokestatic 55, 3) := by decide +kernel
theorem dX8_order_18 : decode cX8_order 18 = .ok (.istore 6, 2) := by decide +kernel
theorem dX8_order_20 : decode cX8_order 20 = .ok (.iload 5, 2) := by decide +kernel
theorem dX8_order_22 : decode cX8_order 22 = .ok (.iload 6, 2) := by decide +kernel
theorem dX8_order_24 : decode cX8_order 24 = .ok (.if_icmp .eq 16, 3) := by decide +kernel
theorem dX8_order_27 : decode cX8_order 27 = .ok (.iload 5, 2) := by decide +kernel
theorem dX8_order_29 : decode cX8_order 29 = .ok (.iload 6, 2) := by decide +kernel
theorem dX8_order_31 : decode cX8_order 31 = .ok (.if_icmp .le 7, 3) := by decide +kernel
theorem dX8_order_34 : decode cX8_order 34 = .ok (.iconst 1, 1) := by decide +kernel
theorem dX8_order_35 : decode cX8_order 35 = .ok (.goto 4, 3) := by decide +kernel
theorem dX8_order_38 : decode cX8_order 38 = .ok (.iconst (-1), 1) := by decide +kernel
theorem dX8_order_39 : decode cX8_order 39 = .ok (.ireturn, 1) := by decide +kernel
theorem dX8_order_40 : decode cX8_order 40 = .ok (.lload_n 1, 1) := by decide +kernel
theorem dX8_order_41 : decode cX8_order 41 = .ok (.invokestatic 59, 3) := by decide +kernel
theorem dX8_order_44 : decode cX8_order 44 = .ok (.lload_n 3, 1) := by decide +kernel
theorem dX8_order_45 : decode cX8_order 45 = .ok (.invokestatic 59, 3) := by decide +kernel
theorem dX8_order_48 : decode cX8_order 48 = .ok (.invokestatic 63, 3) := by decide +kernel
theorem dX8_order_51 : decode cX8_order 51 = .ok (.istore 7, 2) := by decide +kernel
theorem dX8_order_53 : decode cX8_order 53 = .ok (.iconst 0, 1) := by decide +kernel
theorem dX8_order_54 : decode cX8_order 54 = .ok (.istore 8, 2) := by decide +kernel
theorem dX8_order_56 : decode cX8_order 56 = .ok (.iload 8, 2) := by decide +kernel
theorem dX8_order_58 : decode cX8_order 58 = .ok (.iload 7, 2) := by decide +kernel
theorem dX8_order_60 : decode cX8_order 60 = .ok (.if_icmp .ge 55, 3) := by decide +kernel
theorem dX8_order_63 : decode cX8_order 63 = .ok (.lload_n 1, 1) := by decide +kernel
theorem dX8_order_64 : decode cX8_order 64 = .ok (.iload 8, 2) := by decide +kernel
theorem dX8_order_66 : decode cX8_order 66 = .ok (.invokestatic 69, 3) := by decide +kernel
theorem dX8_order_69 : decode cX8_order 69 = .ok (.istore 9, 2) := by decide +kernel
theorem dX8_order_71 : decode cX8_order 71 = .ok (.lload_n 3, 1) := by decide +kernel
theorem dX8_order_72 : decode cX8_order 72 = .ok (.iload 8, 2) := by decide +kernel
theorem dX8_order_74 : decode cX8_order 74 = .ok (.invokestatic 69, 3) := by decide +kernel
theorem dX8_order_77 : decode cX8_order 77 = .ok (.istore 10, 2) := by decide +kernel
theorem dX8_order_79 : decode cX8_order 79 = .ok (.iload 9, 2) := by decide +kernel
theorem dX8_order_81 : decode cX8_order 81 = .ok (.iload 10, 2) := by decide +kernel
theorem dX8_order_83 : decode cX8_order 83 = .ok (.if_icmp .eq 26, 3) := by decide +kernel
theorem dX8_order_86 : decode cX8_order 86 = .ok (.aload_n 0, 1) := by decide +kernel
theorem dX8_order_87 : decode cX8_order 87 = .ok (.getfield 29, 3) := by decide +kernel
theorem dX8_order_90 : decode cX8_order 90 = .ok (.iload 9, 2) := by decide +kernel
theorem dX8_order_92 : decode cX8_order 92 = .ok (.iaload, 1) := by decide +kernel
theorem dX8_order_93 : decode cX8_order 93 = .ok (.aload_n 0, 1) := by decide +kernel
theorem dX8_order_94 : decode cX8_order 94 = .ok (.getfield 29, 3) := by decide +kernel
theorem dX8_order_97 : decode cX8_order 97 = .ok (.iload 10, 2) := by decide +kernel
theorem dX8_order_99 : decode cX8_order 99 = .ok (.iaload, 1) := by decide +kernel
theorem dX8_order_100 : decode cX8_order 100 = .ok (.if_icmp .le 7, 3) := by decide +kernel
theorem dX8_order_103 : decode cX8_order 103 = .ok (.iconst 1, 1) := by decide +kernel
theorem dX8_order_104 : decode cX8_order 104 = .ok (.goto 4, 3) := by decide +kernel
theorem dX8_order_107 : decode cX8_order 107 = .ok (.iconst (-1), 1) := by decide +kernel
theorem dX8_order_108 : decode cX8_order 108 = .ok (.ireturn, 1) := by decide +kernel
theorem dX8_order_109 : decode cX8_order 109 = .ok (.iinc 8 1, 3) := by decide +kernel
theorem dX8_order_112 : decode cX8_order 112 = .ok (.goto (-56), 3) := by decide +kernel
theorem dX8_order_115 : decode cX8_order 115 = .ok (.iconst 0, 1) := by decide +kernel
theorem dX8_order_116 : decode cX8_order 116 = .ok (.ireturn, 1) := by decide +kernel
abbrev rmX8_order : Room := { frames := 1, cells := 0, slots := 0, locals := 60 }
noncomputable def fLX8_order_56 (σ : St) (x0 : Nat) (x1 : Int64) (x3 : Int64) (x7 : Int32) (a : Int32) : Option ((Int32) ⊕ ((Int32 × Int32) ⊕ (Unit))) :=
if x7 ≤ a then
(some (Sum.inr (Sum.inr ())))
else
((fX10_letterOf x1 a).bind fun w66 =>
(fX10_letterOf x3 a).bind fun w74 =>
if w66 = w74 then
(xlet (a + 1) fun v109 =>
some (Sum.inl v109))
else
(some (Sum.inr (Sum.inl (w66, w74)))))
set_option maxHeartbeats 4000000 in
set_option maxRecDepth 100000 in
theorem lpX8_order_56 {X : xX} {σ : St} {x0 : Nat} {x1 : Int64} {x3 : Int64} {x7 : Int32}  {a0 : Int32} {b : (Int32 × Int32) ⊕ (Unit)} (C : Ok X cX8_order 11 RX8 rmX8_order (some .int)) (hb : iterP (fLX8_order_56 σ x0 x1 x3 x7) a0 = some b) (hy0 : ∀ s, b = (Sum.inl s) → V X (0, 0) σ 86 [(0, .ref (x0)), (9, .int (s.1)), (10, .int (s.2))] []) (hy1 : ∀ s, b = (Sum.inr s) → V X (0, 0) σ 115 [] []) : V X (0, 0) σ 56 [(0, .ref (x0)), (1, .long (x1)), (3, .long (x3)), (7, .int (x7)), (8, .int (a0))] [] := by
  obtain ⟨n, hn⟩ := iterP_some hb
  refine x_loop (P := fun a => V X (0, 0) σ 56 [(0, .ref (x0)), (1, .long (x1)), (3, .long (x3)), (7, .int (x7)), (8, .int (a))] []) ?_ n a0 hn
  intro a c hf hK hxx
  have hx0 : ∀ s, c = Sum.inr (Sum.inl s) → V X (0, 0) σ 86 [(0, .ref (x0)), (9, .int (s.1)), (10, .int (s.2))] [] := fun s e => hy0 s (hxx _ e).symm
  have hx1 : ∀ s, c = Sum.inr (Sum.inr s) → V X (0, 0) σ 115 [] [] := fun s e => hy1 s (hxx _ e).symm
  unfold fLX8_order_56 at hf
  refine x_iload C dX8_order_56 58 rfl 4 rfl ?_
  refine x_iload C dX8_order_58 60 rfl 3 rfl ?_
  refine x_icmp_ge C dX8_order_60 115 (by decide) 63 rfl (fun hc => ?_) (fun hc => ?_)
  · have hf := (if_pos hc).symm.trans hf
    refine x_lv [] (lv' := []) rfl ?_
    exact hx1 _ (Option.some.inj hf).symm
  · have hf := (if_neg hc).symm.trans hf
    refine x_lload_n C dX8_order_63 64 rfl 1 rfl rfl ?_
    refine x_iload C dX8_order_64 66 rfl 4 rfl ?_
    obtain ⟨w66, hw66, hf⟩ := x_bind hf
    refine x_callSi C dX8_order_66 69 rfl (cX10_letterOfc hw66) kX10_letterOf ksX10_letterOf w614 ⟨rfl, rfl⟩ ⟨Nat.le_of_ble_eq_true rfl, Nat.le_of_ble_eq_true rfl⟩ ⟨Nat.zero_le _, Nat.zero_le _⟩ rfl rfl (Nat.le_of_ble_eq_true rfl) ?_
    refine x_istore C dX8_order_69 71 rfl rfl [(9, .int (w66)), (0, .ref (x0)), (1, .long (x1)), (3, .long (x3)), (7, .int (x7)), (8, .int (a))] rfl ?_
    refine x_lload_n C dX8_order_71 72 rfl 3 rfl rfl ?_
    refine x_iload C dX8_order_72 74 rfl 5 rfl ?_
    obtain ⟨w74, hw74, hf⟩ := x_bind hf
    refine x_callSi C dX8_order_74 77 rfl (cX10_letterOfc hw74) kX10_letterOf ksX10_letterOf w614 ⟨rfl, rfl⟩ ⟨Nat.le_of_ble_eq_true rfl, Nat.le_of_ble_eq_true rfl⟩ ⟨Nat.zero_le _, Nat.zero_le _⟩ rfl rfl (Nat.le_of_ble_eq_true rfl) ?_
    refine x_istore C dX8_order_77 79 rfl rfl [(10, .int (w74)), (9, .int (w66)), (0, .ref (x0)), (1, .long (x1)), (3, .long (x3)), (7, .int (x7)), (8, .int (a))] rfl ?_
    refine x_iload C dX8_order_79 81 rfl 1 rfl ?_
    refine x_iload C dX8_order_81 83 rfl 0 rfl ?_
    refine x_icmp_eq C dX8_order_83 109 (by decide) 86 rfl (fun hc => ?_) (fun hc => ?_)
    · have hf := (if_pos hc).symm.trans hf
      obtain ⟨v109, ev109, hf⟩ := xlet_some hf
      refine x_iinc C dX8_order_109 112 rfl 6 rfl v109 ev109 rfl [(8, .int (v109)), (10, .int (w74)), (9, .int (w66)), (0, .ref (x0)), (1, .long (x1)), (3, .long (x3)), (7, .int (x7))] rfl ?_
      refine x_goto C dX8_order_112 56 (by decide) ?_
      refine x_lv [3, 4, 5, 6, 0] (lv' := [(0, .ref (x0)), (1, .long (x1)), (3, .long (x3)), (7, .int (x7)), (8, .int (v109))]) rfl ?_
      exact hK _ (Option.some.inj hf).symm
    · have hf := (if_neg hc).symm.trans hf
      refine x_lv [2, 1, 0] (lv' := [(0, .ref (x0)), (9, .int (w66)), (10, .int (w74))]) rfl ?_
      exact hx0 _ (Option.some.inj hf).symm
noncomputable def fX8_order (σ : St) (x0 : Nat) (x1 : Int64) (x3 : Int64) : Option (Int32) :=
(gR σ x0 8 4).bind fun v1 =>
(fX8_weighBy σ v1 x1).bind fun w5 =>
(gR σ x0 8 4).bind fun v11 =>
(fX8_weighBy σ v11 x3).bind fun w15 =>
if w5 = w15 then
((fX10_length x1).bind fun w41 =>
(fX10_length x3).bind fun w45 =>
xlet (imin w41 w45) fun v51 =>
(iterP (fLX8_order_56 σ x0 x1 x3 v51) 0).bind fun b56 =>
(match b56 with
| .inl s56 =>
(gR σ x0 8 5).bind fun v87 =>
(aI σ v87 0 s56.1).bind fun v92 =>
(gR σ x0 8 5).bind fun v94 =>
(aI σ v94 0 s56.2).bind fun v99 =>
if v92 ≤ v99 then
(some (-1))
else
(some 1)
| .inr s56 =>
some 0))
else
(if w5 ≤ w15 then
(some (-1))
else
(some 1))
set_option maxHeartbeats 4000000 in
set_option maxRecDepth 100000 in
theorem cX8_orderc {l : Launch} {G : xG} {A : Nat → Prop} {σ : St} {x0 : Nat} {x1 : Int64} {x3 : Int64} {c : Int32} (hf : fX8_order σ x0 x1 x3 = some c) : Con l yX8_order (xws yX8_order cX8_order 11 (some .int)) rmX8_order [.ref (x0), .long (x1), .long (x3)] G A σ (some (.int c)) σ := by
  refine x_start rfl (Nat.le_of_ble_eq_true rfl) (fun X _ _ _ C hE0 => ?_)
  have hE : ∀ r, c = r → xE1 X (some (.int r)) σ := fun r e => e ▸ hE0
  show V X (0, 0) σ 0 [(0, .ref (x0)), (1, .long (x1)), (3, .long (x3))] []
  unfold fX8_order at hf
  refine x_aload_n C dX8_order_0 1 rfl 0 rfl rfl ?_
  obtain ⟨v1, hv1, hf⟩ := x_bind hf
  refine x_getR C dX8_order_1 4 rfl hv1 cl8 rfl w202 ?_
  refine x_lload_n C dX8_order_4 5 rfl 1 rfl rfl ?_
  obtain ⟨w5, hw5, hf⟩ := x_bind hf
  refine x_callSi C dX8_order_5 8 rfl (cX8_weighByc hw5) kX8_weighBy ksX8_weighBy w604 ⟨rfl, rfl⟩ ⟨Nat.le_of_ble_eq_true rfl, Nat.le_of_ble_eq_true rfl⟩ ⟨Nat.zero_le _, Nat.zero_le _⟩ rfl rfl (Nat.le_of_ble_eq_true rfl) ?_
  refine x_istore C dX8_order_8 10 rfl rfl [(5, .int (w5)), (0, .ref (x0)), (1, .long (x1)), (3, .long (x3))] rfl ?_
  refine x_aload_n C dX8_order_10 11 rfl 1 rfl rfl ?_
  obtain ⟨v11, hv11, hf⟩ := x_bind hf
  refine x_getR C dX8_order_11 14 rfl hv11 cl8 rfl w202 ?_
  refine x_lload_n C dX8_order_14 15 rfl 3 rfl rfl ?_
  obtain ⟨w15, hw15, hf⟩ := x_bind hf
  refine x_callSi C dX8_order_15 18 rfl (cX8_weighByc hw15) kX8_weighBy ksX8_weighBy w604 ⟨rfl, rfl⟩ ⟨Nat.le_of_ble_eq_true rfl, Nat.le_of_ble_eq_true rfl⟩ ⟨Nat.zero_le _, Nat.zero_le _⟩ rfl rfl (Nat.le_of_ble_eq_true rfl) ?_
  refine x_istore C dX8_order_18 20 rfl rfl [(6, .int (w15)), (5, .int (w5)), (0, .ref (x0)), (1, .long (x1)), (3, .long (x3))] rfl ?_
  refine x_iload C dX8_order_20 22 rfl 1 rfl ?_
  refine x_iload C dX8_order_22 24 rfl 0 rfl ?_
  refine x_icmp_eq C dX8_order_24 40 (by decide) 27 rfl (fun hc => ?_) (fun hc => ?_)
  · have hf := (if_pos hc).symm.trans hf
    refine x_lload_n C dX8_order_40 41 rfl 3 rfl rfl ?_
    obtain ⟨w41, hw41, hf⟩ := x_bind hf
    refine x_callSi C dX8_order_41 44 rfl (cX10_lengthc hw41) kX10_length ksX10_length w608 ⟨rfl, rfl⟩ ⟨Nat.le_of_ble_eq_true rfl, Nat.le_of_ble_eq_true rfl⟩ ⟨Nat.zero_le _, Nat.zero_le _⟩ rfl rfl (Nat.le_of_ble_eq_true rfl) ?_
    refine x_lload_n C dX8_order_44 45 rfl 4 rfl rfl ?_
    obtain ⟨w45, hw45, hf⟩ := x_bind hf
    refine x_callSi C dX8_order_45 48 rfl (cX10_lengthc hw45) kX10_length ksX10_length w608 ⟨rfl, rfl⟩ ⟨Nat.le_of_ble_eq_true rfl, Nat.le_of_ble_eq_true rfl⟩ ⟨Nat.zero_le _, Nat.zero_le _⟩ rfl rfl (Nat.le_of_ble_eq_true rfl) ?_
    refine x_mmin C dX8_order_48 51 rfl w611 mminw ⟨Nat.le_of_ble_eq_true rfl, Nat.le_of_ble_eq_true rfl⟩ ⟨Nat.zero_le _, Nat.zero_le _⟩ ?_
    obtain ⟨v51, ev51, hf⟩ := xlet_some hf
    refine x_topi ev51 ?_
    refine x_istore C dX8_order_51 53 rfl rfl [(7, .int (v51)), (6, .int (w15)), (5, .int (w5)), (0, .ref (x0)), (1, .long (x1)), (3, .long (x3))] rfl ?_
    refine x_iconst C dX8_order_53 54 rfl 0 (by decide) ?_
    refine x_istore C dX8_order_54 56 rfl rfl [(8, .int (0)), (7, .int (v51)), (6, .int (w15)), (5, .int (w5)), (0, .ref (x0)), (1, .long (x1)), (3, .long (x3))] rfl ?_
    obtain ⟨b56, hb56, hf⟩ := x_bind hf
    refine x_lv [4, 5, 6, 1, 0] (lv' := [(0, .ref (x0)), (1, .long (x1)), (3, .long (x3)), (7, .int (v51)), (8, .int (0))]) rfl ?_
    refine lpX8_order_56 C hb56 (fun s56 e56 => ?_) (fun s56 e56 => ?_)
    · subst e56
      try dsimp only at hf
      refine x_aload_n C dX8_order_86 87 rfl 0 rfl rfl ?_
      obtain ⟨v87, hv87, hf⟩ := x_bind hf
      refine x_getR C dX8_order_87 90 rfl hv87 cl8 rfl w205 ?_
      refine x_iload C dX8_order_90 92 rfl 1 rfl ?_
      obtain ⟨v92, hv92, hf⟩ := x_bind hf
      refine x_iaload C dX8_order_92 93 rfl hv92 ?_
      refine x_aload_n C dX8_order_93 94 rfl 0 rfl rfl ?_
      obtain ⟨v94, hv94, hf⟩ := x_bind hf
      refine x_getR C dX8_order_94 97 rfl hv94 cl8 rfl w205 ?_
      refine x_iload C dX8_order_97 99 rfl 2 rfl ?_
      obtain ⟨v99, hv99, hf⟩ := x_bind hf
      refine x_iaload C dX8_order_99 100 rfl hv99 ?_
      refine x_icmp_le C dX8_order_100 107 (by decide) 103 rfl (fun hc => ?_) (fun hc => ?_)
      · have hf := (if_pos hc).symm.trans hf
        refine x_iconst C dX8_order_107 108 rfl (-1) (by decide) ?_
        exact x_iret C (hE _ (Option.some.inj hf).symm) dX8_order_108
      · have hf := (if_neg hc).symm.trans hf
        refine x_iconst C dX8_order_103 104 rfl 1 (by decide) ?_
        refine x_goto C dX8_order_104 108 (by decide) ?_
        exact x_iret C (hE _ (Option.some.inj hf).symm) dX8_order_108
    · subst e56
      try dsimp only at hf
      refine x_iconst C dX8_order_115 116 rfl 0 (by decide) ?_
      exact x_iret C (hE _ (Option.some.inj hf).symm) dX8_order_116
  · have hf := (if_neg hc).symm.trans hf
    refine x_iload C dX8_order_27 29 rfl 1 rfl ?_
    refine x_iload C dX8_order_29 31 rfl 0 rfl ?_
    refine x_icmp_le C dX8_order_31 38 (by decide) 34 rfl (fun hc => ?_) (fun hc => ?_)
    · have hf := (if_pos hc).symm.trans hf
      refine x_iconst C dX8_order_38 39 rfl (-1) (by decide) ?_
      exact x_iret C (hE _ (Option.some.inj hf).symm) dX8_order_39
    · have hf := (if_neg hc).symm.trans hf
      refine x_iconst C dX8_order_34 35 rfl 1 (by decide) ?_
      refine x_goto C dX8_order_35 39 (by decide) ?_
      exact x_iret C (hE _ (Option.some.inj hf).symm) dX8_order_39
theorem dX8_isFalling_0 : decode cX8_isFalling 0 = .ok (.aload_n 0, 1) := by decide +kernel
theorem dX8_isFalling_1 : decode cX8_isFalling 1 = .ok (.aload_n 0, 1) := by decide +kernel
theorem dX8_isFalling_2 : decode cX8_isFalling 2 = .ok (.getfield 18, 3) := by decide +kernel
theorem dX8_isFalling_5 : decode cX8_isFalling 5 = .ok (.iload_n 1, 1) := by decide +kernel
theorem dX8_isFalling_6 : decode cX8_isFalling 6 = .ok (.laload, 1) := by decide +kernel
theorem dX8_isFalling_7 : decode cX8_isFalling 7 = .ok (.aload_n 0, 1) := by decide +kernel
theorem dX8_isFalling_8 : decode cX8_isFalling 8 = .ok (.getfield 22, 3) := by decide +kernel
theorem dX8_isFalling_11 : decode cX8_isFalling 11 = .ok (.iload_n 1, 1) := by decide +kernel
theorem dX8_isFalling_12 : decode cX8_isFalling 12 = .ok (.laload, 1) := by decide +kernel
theorem dX8_isFalling_13 : decode cX8_isFalling 13 = .ok (.invokevirtual 73, 3) := by decide +kernel
theorem dX8_isFalling_16 : decode cX8_isFalling 16 = .ok (.ifCond .le 7, 3) := by decide +kernel
theorem dX8_isFalling_19 : decode cX8_isFalling 19 = .ok (.iconst 1, 1) := by decide +kernel
theorem dX8_isFalling_20 : decode cX8_isFalling 20 = .ok (.goto 4, 3) := by decide +kernel
theorem dX8_isFalling_23 : decode cX8_isFalling 23 = .ok (.iconst 0, 1) := by decide +kernel
theorem dX8_isFalling_24 : decode cX8_isFalling 24 = .ok (.ireturn, 1) := by decide +kernel
abbrev rmX8_isFalling : Room := { frames := 2, cells := 0, slots := 0, locals := 90 }
noncomputable def fX8_isFalling (σ : St) (x0 : Nat) (x1 : Int32) : Option (Int32) :=
(gR σ x0 8 2).bind fun v2 =>
(aL σ v2 x1).bind fun v6 =>
(gR σ x0 8 3).bind fun v8 =>
(aL σ v8 x1).bind fun v12 =>
(isO σ x0 8).bind fun _ =>
(fX8_order σ x0 v6 v12).bind fun w13 =>
if w13 ≤ 0 then
(some 0)
else
(some 1)
set_option maxHeartbeats 4000000 in
set_option maxRecDepth 100000 in
theorem cX8_isFallingc {l : Launch} {G : xG} {A : Nat → Prop} {σ : St} {x0 : Nat} {x1 : Int32} {c : Int32} (hf : fX8_isFalling σ x0 x1 = some c) : Con l yX8_isFalling (xws yX8_isFalling cX8_isFalling 2 (some .boolean)) rmX8_isFalling [.ref (x0), .int (x1)] G A σ (some (.int c)) σ := by
  refine x_start rfl (Nat.le_of_ble_eq_true rfl) (fun X _ _ _ C hE0 => ?_)
  have hE : ∀ r, c = r → xE1 X (some (.int r)) σ := fun r e => e ▸ hE0
  show V X (0, 0) σ 0 [(0, .ref (x0)), (1, .int (x1))] []
  unfold fX8_isFalling at hf
  refine x_aload_n C dX8_isFalling_0 1 rfl 0 rfl rfl ?_
  refine x_aload_n C dX8_isFalling_1 2 rfl 0 rfl rfl ?_
  obtain ⟨v2, hv2, hf⟩ := x_bind hf
  refine x_getR C dX8_isFalling_2 5 rfl hv2 cl8 rfl w189 ?_
  refine x_iload_n C dX8_isFalling_5 6 rfl 1 rfl rfl ?_
  obtain ⟨v6, hv6, hf⟩ := x_bind hf
  refine x_laload C dX8_isFalling_6 7 rfl hv6 ?_
  refine x_aload_n C dX8_isFalling_7 8 rfl 0 rfl rfl ?_
  obtain ⟨v8, hv8, hf⟩ := x_bind hf
  refine x_getR C dX8_isFalling_8 11 rfl hv8 cl8 rfl w196 ?_
  refine x_iload_n C dX8_isFalling_11 12 rfl 1 rfl rfl ?_
  obtain ⟨v12, hv12, hf⟩ := x_bind hf
  refine x_laload C dX8_isFalling_12 13 rfl hv12 ?_
  obtain ⟨o13, ho13, hf⟩ := x_bind hf
  obtain ⟨w13, hw13, hf⟩ := x_bind hf
  refine x_callVi C dX8_isFalling_13 16 rfl ho13 cl8.1 rfl (cX8_orderc hw13) kX8_order kvX8_order w600 ⟨rfl, rfl⟩ ⟨Nat.le_of_ble_eq_true rfl, Nat.le_of_ble_eq_true rfl⟩ ⟨Nat.zero_le _, Nat.zero_le _⟩ rfl rfl (Nat.le_of_ble_eq_true rfl) ?_
  refine x_if_le C dX8_isFalling_16 23 (by decide) 19 rfl (fun hc => ?_) (fun hc => ?_)
  · have hf := (if_pos hc).symm.trans hf
    refine x_iconst C dX8_isFalling_23 24 rfl 0 (by decide) ?_
    exact x_zret C rfl (hE _ (Option.some.inj hf).symm) dX8_isFalling_24
  · have hf := (if_neg hc).symm.trans hf
    refine x_iconst C dX8_isFalling_19 20 rfl 1 (by decide) ?_
    refine x_goto C dX8_isFalling_20 24 (by decide) ?_
    exact x_zret C rfl (hE _ (Option.some.inj hf).symm) dX8_isFalling_24
theorem dX8_falling_0 : decode cX8_falling 0 = .ok (.iconst 0, 1) := by decide +kernel
theorem dX8_falling_1 : decode cX8_falling 1 = .ok (.istore_n 1, 1) := by decide +kernel
theorem dX8_falling_2 : decode cX8_falling 2 = .ok (.iconst 0, 1) := by decide +kernel
theorem dX8_falling_3 : decode cX8_falling 3 = .ok (.istore_n 2, 1) := by decide +kernel
theorem dX8_falling_4 : decode cX8_falling 4 = .ok (.iload_n 2, 1) := by decide +kernel
theorem dX8_falling_5 : decode cX8_falling 5 = .ok (.aload_n 0, 1) := by decide +kernel
theorem dX8_falling_6 : decode cX8_falling 6 = .ok (.getfield 15, 3) := by decide +kernel
theorem dX8_falling_9 : decode cX8_falling 9 = .ok (.if_icmp .ge 20, 3) := by decide +kernel
theorem dX8_falling_12 : decode cX8_falling 12 = .ok (.aload_n 0, 1) := by decide +kernel
theorem dX8_falling_13 : decode cX8_falling 13 = .ok (.iload_n 2, 1) := by decide +kernel
theorem dX8_falling_14 : decode cX8_falling 14 = .ok (.invokevirtual 77, 3) := by decide +kernel
theorem dX8_falling_17 : decode cX8_falling 17 = .ok (.ifCond .eq 6, 3) := by decide +kernel
theorem dX8_falling_20 : decode cX8_falling 20 = .ok (.iinc 1 1, 3) := by decide +kernel
theorem dX8_falling_23 : decode cX8_falling 23 = .ok (.iinc 2 1, 3) := by decide +kernel
theorem dX8_falling_26 : decode cX8_falling 26 = .ok (.goto (-22), 3) := by decide +kernel
theorem dX8_falling_29 : decode cX8_falling 29 = .ok (.iload_n 1, 1) := by decide +kernel
theorem dX8_falling_30 : decode cX8_falling 30 = .ok (.ireturn, 1) := by decide +kernel
abbrev rmX8_falling : Room := { frames := 3, cells := 0, slots := 0, locals := 111 }
noncomputable def fLX8_falling_4 (σ : St) (x0 : Nat) (a : Int32 × Int32) : Option ((Int32 × Int32) ⊕ (Int32)) :=
(gI σ x0 8 1).bind fun v6 =>
if v6 ≤ a.2 then
(some (Sum.inr a.1))
else
((isO σ x0 8).bind fun _ =>
(fX8_isFalling σ x0 a.2).bind fun w14 =>
if w14 = 0 then
(xlet (a.2 + 1) fun v23 =>
some (Sum.inl (a.1, v23)))
else
(xlet (a.1 + 1) fun v20 =>
xlet (a.2 + 1) fun v23 =>
some (Sum.inl (v20, v23))))
set_option maxHeartbeats 4000000 in
set_option maxRecDepth 100000 in
theorem lpX8_falling_4 {X : xX} {σ : St} {x0 : Nat}  {a0 : Int32 × Int32} {b : Int32} (C : Ok X cX8_falling 3 RX8 rmX8_falling (some .int)) (hb : iterP (fLX8_falling_4 σ x0) a0 = some b) (hy0 : ∀ s, b = s → V X (0, 0) σ 29 [(1, .int (s))] []) : V X (0, 0) σ 4 [(0, .ref (x0)), (1, .int (a0.1)), (2, .int (a0.2))] [] := by
  obtain ⟨n, hn⟩ := iterP_some hb
  refine x_loop (P := fun a => V X (0, 0) σ 4 [(0, .ref (x0)), (1, .int (a.1)), (2, .int (a.2))] []) ?_ n a0 hn
  intro a c hf hK hxx
  have hx0 : ∀ s, c = Sum.inr s → V X (0, 0) σ 29 [(1, .int (s))] [] := fun s e => hy0 s (hxx _ e).symm
  unfold fLX8_falling_4 at hf
  refine x_iload_n C dX8_falling_4 5 rfl 2 rfl rfl ?_
  refine x_aload_n C dX8_falling_5 6 rfl 0 rfl rfl ?_
  obtain ⟨v6, hv6, hf⟩ := x_bind hf
  refine x_getI C dX8_falling_6 9 rfl hv6 cl8 rfl w182 ?_
  refine x_icmp_ge C dX8_falling_9 29 (by decide) 12 rfl (fun hc => ?_) (fun hc => ?_)
  · have hf := (if_pos hc).symm.trans hf
    refine x_lv [1] (lv' := [(1, .int (a.1))]) rfl ?_
    exact hx0 _ (Option.some.inj hf).symm
  · have hf := (if_neg hc).symm.trans hf
    refine x_aload_n C dX8_falling_12 13 rfl 0 rfl rfl ?_
    refine x_iload_n C dX8_falling_13 14 rfl 2 rfl rfl ?_
    obtain ⟨o14, ho14, hf⟩ := x_bind hf
    obtain ⟨w14, hw14, hf⟩ := x_bind hf
    refine x_callVi C dX8_falling_14 17 rfl ho14 cl8.1 rfl (cX8_isFallingc hw14) kX8_isFalling kvX8_isFalling w596 ⟨rfl, rfl⟩ ⟨Nat.le_of_ble_eq_true rfl, Nat.le_of_ble_eq_true rfl⟩ ⟨Nat.zero_le _, Nat.zero_le _⟩ rfl rfl (Nat.le_of_ble_eq_true rfl) ?_
    refine x_if_eq C dX8_falling_17 23 (by decide) 20 rfl (fun hc => ?_) (fun hc => ?_)
    · have hf := (if_pos hc).symm.trans hf
      obtain ⟨v23, ev23, hf⟩ := xlet_some hf
      refine x_iinc C dX8_falling_23 26 rfl 2 rfl v23 ev23 rfl [(2, .int (v23)), (0, .ref (x0)), (1, .int (a.1))] rfl ?_
      refine x_goto C dX8_falling_26 4 (by decide) ?_
      refine x_lv [1, 2, 0] (lv' := [(0, .ref (x0)), (1, .int (a.1)), (2, .int (v23))]) rfl ?_
      exact hK _ (Option.some.inj hf).symm
    · have hf := (if_neg hc).symm.trans hf
      obtain ⟨v20, ev20, hf⟩ := xlet_some hf
      refine x_iinc C dX8_falling_20 23 rfl 1 rfl v20 ev20 rfl [(1, .int (v20)), (0, .ref (x0)), (2, .int (a.2))] rfl ?_
      obtain ⟨v23, ev23, hf⟩ := xlet_some hf
      refine x_iinc C dX8_falling_23 26 rfl 2 rfl v23 ev23 rfl [(2, .int (v23)), (1, .int (v20)), (0, .ref (x0))] rfl ?_
      refine x_goto C dX8_falling_26 4 (by decide) ?_
      refine x_lv [2, 1, 0] (lv' := [(0, .ref (x0)), (1, .int (v20)), (2, .int (v23))]) rfl ?_
      exact hK _ (Option.some.inj hf).symm
noncomputable def fX8_falling (σ : St) (x0 : Nat) : Option (Int32) :=
(iterP (fLX8_falling_4 σ x0) (0, 0)).bind fun b4 =>
some b4
set_option maxHeartbeats 4000000 in
set_option maxRecDepth 100000 in
theorem cX8_fallingc {l : Launch} {G : xG} {A : Nat → Prop} {σ : St} {x0 : Nat} {c : Int32} (hf : fX8_falling σ x0 = some c) : Con l yX8_falling (xws yX8_falling cX8_falling 3 (some .int)) rmX8_falling [.ref (x0)] G A σ (some (.int c)) σ := by
  refine x_start rfl (Nat.le_of_ble_eq_true rfl) (fun X _ _ _ C hE0 => ?_)
  have hE : ∀ r, c = r → xE1 X (some (.int r)) σ := fun r e => e ▸ hE0
  show V X (0, 0) σ 0 [(0, .ref (x0))] []
  unfold fX8_falling at hf
  refine x_iconst C dX8_falling_0 1 rfl 0 (by decide) ?_
  refine x_istore_n C dX8_falling_1 2 rfl rfl rfl [(1, .int (0)), (0, .ref (x0))] rfl ?_
  refine x_iconst C dX8_falling_2 3 rfl 0 (by decide) ?_
  refine x_istore_n C dX8_falling_3 4 rfl rfl rfl [(2, .int (0)), (1, .int (0)), (0, .ref (x0))] rfl ?_
  obtain ⟨b4, hb4, hf⟩ := x_bind hf
  refine x_lv [2, 1, 0] (lv' := [(0, .ref (x0)), (1, .int (0)), (2, .int (0))]) rfl ?_
  refine lpX8_falling_4 C hb4 (fun s4 e4 => ?_)
  subst e4
  refine x_iload_n C dX8_falling_29 30 rfl 0 rfl rfl ?_
  exact x_iret C (hE _ (Option.some.inj hf).symm) dX8_falling_30
theorem dX8_setRight_0 : decode cX8_setRight 0 = .ok (.aload_n 0, 1) := by decide +kernel
theorem dX8_setRight_1 : decode cX8_setRight 1 = .ok (.getfield 22, 3) := by decide +kernel
theorem dX8_setRight_4 : decode cX8_setRight 4 = .ok (.iload_n 1, 1) := by decide +kernel
theorem dX8_setRight_5 : decode cX8_setRight 5 = .ok (.lload_n 2, 1) := by decide +kernel
theorem dX8_setRight_6 : decode cX8_setRight 6 = .ok (.lastore, 1) := by decide +kernel
theorem dX8_setRight_7 : decode cX8_setRight 7 = .ok (.aload_n 0, 1) := by decide +kernel
theorem dX8_setRight_8 : decode cX8_setRight 8 = .ok (.dup, 1) := by decide +kernel
theorem dX8_setRight_9 : decode cX8_setRight 9 = .ok (.getfield 32, 3) := by decide +kernel
theorem dX8_setRight_12 : decode cX8_setRight 12 = .ok (.iconst 1, 1) := by decide +kernel
theorem dX8_setRight_13 : decode cX8_setRight 13 = .ok (.iadd, 1) := by decide +kernel
theorem dX8_setRight_14 : decode cX8_setRight 14 = .ok (.putfield 32, 3) := by decide +kernel
theorem dX8_setRight_17 : decode cX8_setRight 17 = .ok (.return_, 1) := by decide +kernel
abbrev rmX8_setRight : Room := { frames := 0, cells := 0, slots := 0, locals := 0 }
noncomputable def fX8_setRight (σ : St) (x0 : Nat) (x1 : Int32) (x2 : Int64) : Option (St) :=
(gR σ x0 8 3).bind fun v1 =>
(sL σ v1 x1 x2).bind fun σ6 =>
(gI σ6 x0 8 6).bind fun v9 =>
(wrF σ6 x0 8 6 (.int (v9 + 1))).bind fun σ14 =>
some σ14
set_option maxHeartbeats 4000000 in
set_option maxRecDepth 100000 in
theorem cX8_setRightc {l : Launch} {G : xG} {A : Nat → Prop} {σ : St} {x0 : Nat} {x1 : Int32} {x2 : Int64} {c : St} (hf : fX8_setRight σ x0 x1 x2 = some c) : Con l yX8_setRight (xws yX8_setRight cX8_setRight 4 none) rmX8_setRight [.ref (x0), .int (x1), .long (x2)] G A σ none c := by
  refine x_start rfl (Nat.le_of_ble_eq_true rfl) (fun X _ _ _ C hE0 => ?_)
  have hE : ∀ r, c = r → xE1 X none r := fun r e => e ▸ hE0
  show V X (0, 0) σ 0 [(0, .ref (x0)), (1, .int (x1)), (2, .long (x2))] []
  unfold fX8_setRight at hf
  refine x_aload_n C dX8_setRight_0 1 rfl 0 rfl rfl ?_
  obtain ⟨v1, hv1, hf⟩ := x_bind hf
  refine x_getR C dX8_setRight_1 4 rfl hv1 cl8 rfl w196 ?_
  refine x_iload_n C dX8_setRight_4 5 rfl 1 rfl rfl ?_
  refine x_lload_n C dX8_setRight_5 6 rfl 2 rfl rfl ?_
  obtain ⟨σ6, hσ6, hf⟩ := x_bind hf
  refine x_lastore C dX8_setRight_6 7 rfl hσ6 ?_
  refine x_aload_n C dX8_setRight_7 8 rfl 0 rfl rfl ?_
  refine x_dup C dX8_setRight_8 9 rfl rfl ?_
  obtain ⟨v9, hv9, hf⟩ := x_bind hf
  refine x_getI C dX8_setRight_9 12 rfl hv9 cl8 rfl w208 ?_
  refine x_iconst C dX8_setRight_12 13 rfl 1 (by decide) ?_
  refine x_iadd C dX8_setRight_13 14 rfl ?_
  obtain ⟨σ14, hσ14, hf⟩ := x_bind hf
  refine x_putX C dX8_setRight_14 17 rfl hσ14 cl8 rfl w208 rfl rfl rfl ?_
  exact x_vret C (hE _ (Option.some.inj hf).symm) dX8_setRight_17
theorem dX8_ruleOf_0 : decode cX8_ruleOf 0 = .ok (.iload_n 0, 1) := by decide +kernel
theorem dX8_ruleOf_1 : decode cX8_ruleOf 1 = .ok (.bipush 15, 2) := by decide +kernel
theorem dX8_ruleOf_3 : decode cX8_ruleOf 3 = .ok (.iand, 1) := by decide +kernel
theorem dX8_ruleOf_4 : decode cX8_ruleOf 4 = .ok (.ireturn, 1) := by decide +kernel
abbrev rmX8_ruleOf : Room := { frames := 0, cells := 0, slots := 0, locals := 0 }
noncomputable def fX8_ruleOf (x0 : Int32) : Option (Int32) :=
some (x0 &&& 15)
set_option maxHeartbeats 4000000 in
set_option maxRecDepth 100000 in
theorem cX8_ruleOfc {l : Launch} {G : xG} {A : Nat → Prop} {σ : St} {x0 : Int32} {c : Int32} (hf : fX8_ruleOf x0 = some c) : Con l yX8_ruleOf (xws yX8_ruleOf cX8_ruleOf 1 (some .int)) rmX8_ruleOf [.int (x0)] G A σ (some (.int c)) σ := by
  refine x_start rfl (Nat.le_of_ble_eq_true rfl) (fun X _ _ _ C hE0 => ?_)
  have hE : ∀ r, c = r → xE1 X (some (.int r)) σ := fun r e => e ▸ hE0
  show V X (0, 0) σ 0 [(0, .int (x0))] []
  unfold fX8_ruleOf at hf
  refine x_iload_n C dX8_ruleOf_0 1 rfl 0 rfl rfl ?_
  refine x_bipush C dX8_ruleOf_1 3 rfl 15 (by decide) ?_
  refine x_iand C dX8_ruleOf_3 4 rfl ?_
  exact x_iret C (hE _ (Option.some.inj hf).symm) dX8_ruleOf_4
theorem dX8_whereOf_0 : decode cX8_whereOf 0 = .ok (.iload_n 0, 1) := by decide +kernel
theorem dX8_whereOf_1 : decode cX8_whereOf 1 = .ok (.iconst 4, 1) := by decide +kernel
theorem dX8_whereOf_2 : decode cX8_whereOf 2 = .ok (.ishr, 1) := by decide +kernel
theorem dX8_whereOf_3 : decode cX8_whereOf 3 = .ok (.ireturn, 1) := by decide +kernel
abbrev rmX8_whereOf : Room := { frames := 0, cells := 0, slots := 0, locals := 0 }
noncomputable def fX8_whereOf (x0 : Int32) : Option (Int32) :=
some (x0 >>> (4 &&& 31))
set_option maxHeartbeats 4000000 in
set_option maxRecDepth 100000 in
theorem cX8_whereOfc {l : Launch} {G : xG} {A : Nat → Prop} {σ : St} {x0 : Int32} {c : Int32} (hf : fX8_whereOf x0 = some c) : Con l yX8_whereOf (xws yX8_whereOf cX8_whereOf 1 (some .int)) rmX8_whereOf [.int (x0)] G A σ (some (.int c)) σ := by
  refine x_start rfl (Nat.le_of_ble_eq_true rfl) (fun X _ _ _ C hE0 => ?_)
  have hE : ∀ r, c = r → xE1 X (some (.int r)) σ := fun r e => e ▸ hE0
  show V X (0, 0) σ 0 [(0, .int (x0))] []
  unfold fX8_whereOf at hf
  refine x_iload_n C dX8_whereOf_0 1 rfl 0 rfl rfl ?_
  refine x_iconst C dX8_whereOf_1 2 rfl 4 (by decide) ?_
  refine x_ishr C dX8_whereOf_2 3 rfl ?_
  exact x_iret C (hE _ (Option.some.inj hf).symm) dX8_whereOf_3
theorem dX8_after_0 : decode cX8_after 0 = .ok (.iload_n 3, 1) := by decide +kernel
theorem dX8_after_1 : decode cX8_after 1 = .ok (.invokestatic 107, 3) := by decide +kernel
theorem dX8_after_4 : decode cX8_after 4 = .ok (.istore 4, 2) := by decide +kernel
theorem dX8_after_6 : decode cX8_after 6 = .ok (.lload_n 1, 1) := by decide +kernel
theorem dX8_after_7 : decode cX8_after 7 = .ok (.iload_n 3, 1) := by decide +kernel
theorem dX8_after_8 : decode cX8_after 8 = .ok (.invokestatic 111, 3) := by decide +kernel
theorem dX8_after_11 : decode cX8_after 11 = .ok (.aload_n 0, 1) := by decide +kernel
theorem dX8_after_12 : decode cX8_after 12 = .ok (.getfield 18, 3) := by decide +kernel
theorem dX8_after_15 : decode cX8_after 15 = .ok (.iload 4, 2) := by decide +kernel
theorem dX8_after_17 : decode cX8_after 17 = .ok (.laload, 1) := by decide +kernel
theorem dX8_after_18 : decode cX8_after 18 = .ok (.aload_n 0, 1) := by decide +kernel
theorem dX8_after_19 : decode cX8_after 19 = .ok (.getfield 22, 3) := by decide +kernel
theorem dX8_after_22 : decode cX8_after 22 = .ok (.iload 4, 2) := by decide +kernel
theorem dX8_after_24 : decode cX8_after 24 = .ok (.laload, 1) := by decide +kernel
theorem dX8_after_25 : decode cX8_after 25 = .ok (.invokestatic 114, 3) := by decide +kernel
theorem dX8_after_28 : decode cX8_after 28 = .ok (.lreturn, 1) := by decide +kernel
abbrev rmX8_after : Room := { frames := 1, cells := 0, slots := 0, locals := 36 }
noncomputable def fX8_after (σ : St) (x0 : Nat) (x1 : Int64) (x3 : Int32) : Option (Int64) :=
(fX8_ruleOf x3).bind fun w1 =>
(fX8_whereOf x3).bind fun w8 =>
(gR σ x0 8 2).bind fun v12 =>
(aL σ v12 w1).bind fun v17 =>
(gR σ x0 8 3).bind fun v19 =>
(aL σ v19 w1).bind fun v24 =>
(fX10_replaced x1 w8 v17 v24).bind fun w25 =>
some w25
set_option maxHeartbeats 4000000 in
set_option maxRecDepth 100000 in
theorem cX8_afterc {l : Launch} {G : xG} {A : Nat → Prop} {σ : St} {x0 : Nat} {x1 : Int64} {x3 : Int32} {c : Int64} (hf : fX8_after σ x0 x1 x3 = some c) : Con l yX8_after (xws yX8_after cX8_after 5 (some .long)) rmX8_after [.ref (x0), .long (x1), .int (x3)] G A σ (some (.long c)) σ := by
  refine x_start rfl (Nat.le_of_ble_eq_true rfl) (fun X _ _ _ C hE0 => ?_)
  have hE : ∀ r, c = r → xE1 X (some (.long r)) σ := fun r e => e ▸ hE0
  show V X (0, 0) σ 0 [(0, .ref (x0)), (1, .long (x1)), (3, .int (x3))] []
  unfold fX8_after at hf
  refine x_iload_n C dX8_after_0 1 rfl 2 rfl rfl ?_
  obtain ⟨w1, hw1, hf⟩ := x_bind hf
  refine x_callSi C dX8_after_1 4 rfl (cX8_ruleOfc hw1) kX8_ruleOf ksX8_ruleOf w674 ⟨rfl, rfl⟩ ⟨Nat.le_of_ble_eq_true rfl, Nat.le_of_ble_eq_true rfl⟩ ⟨Nat.zero_le _, Nat.zero_le _⟩ rfl rfl (Nat.le_of_ble_eq_true rfl) ?_
  refine x_istore C dX8_after_4 6 rfl rfl [(4, .int (w1)), (0, .ref (x0)), (1, .long (x1)), (3, .int (x3))] rfl ?_
  refine x_lload_n C dX8_after_6 7 rfl 2 rfl rfl ?_
  refine x_iload_n C dX8_after_7 8 rfl 3 rfl rfl ?_
  obtain ⟨w8, hw8, hf⟩ := x_bind hf
  refine x_callSi C dX8_after_8 11 rfl (cX8_whereOfc hw8) kX8_whereOf ksX8_whereOf w677 ⟨rfl, rfl⟩ ⟨Nat.le_of_ble_eq_true rfl, Nat.le_of_ble_eq_true rfl⟩ ⟨Nat.zero_le _, Nat.zero_le _⟩ rfl rfl (Nat.le_of_ble_eq_true rfl) ?_
  refine x_aload_n C dX8_after_11 12 rfl 1 rfl rfl ?_
  obtain ⟨v12, hv12, hf⟩ := x_bind hf
  refine x_getR C dX8_after_12 15 rfl hv12 cl8 rfl w189 ?_
  refine x_iload C dX8_after_15 17 rfl 0 rfl ?_
  obtain ⟨v17, hv17, hf⟩ := x_bind hf
  refine x_laload C dX8_after_17 18 rfl hv17 ?_
  refine x_aload_n C dX8_after_18 19 rfl 1 rfl rfl ?_
  obtain ⟨v19, hv19, hf⟩ := x_bind hf
  refine x_getR C dX8_after_19 22 rfl hv19 cl8 rfl w196 ?_
  refine x_iload C dX8_after_22 24 rfl 0 rfl ?_
  obtain ⟨v24, hv24, hf⟩ := x_bind hf
  refine x_laload C dX8_after_24 25 rfl hv24 ?_
  obtain ⟨w25, hw25, hf⟩ := x_bind hf
  refine x_callSl C dX8_after_25 28 rfl (cX10_replacedc hw25) kX10_replaced ksX10_replaced w680 ⟨rfl, rfl⟩ ⟨Nat.le_of_ble_eq_true rfl, Nat.le_of_ble_eq_true rfl⟩ ⟨Nat.zero_le _, Nat.zero_le _⟩ rfl rfl (Nat.le_of_ble_eq_true rfl) ?_
  exact x_lret C (hE _ (Option.some.inj hf).symm) dX8_after_28
theorem dX8_codeOf_0 : decode cX8_codeOf 0 = .ok (.iload_n 0, 1) := by decide +kernel
theorem dX8_codeOf_1 : decode cX8_codeOf 1 = .ok (.bipush 16, 2) := by decide +kernel
theorem dX8_codeOf_3 : decode cX8_codeOf 3 = .ok (.imul, 1) := by decide +kernel
theorem dX8_codeOf_4 : decode cX8_codeOf 4 = .ok (.iload_n 1, 1) := by decide +kernel
theorem dX8_codeOf_5 : decode cX8_codeOf 5 = .ok (.iadd, 1) := by decide +kernel
theorem dX8_codeOf_6 : decode cX8_codeOf 6 = .ok (.ireturn, 1) := by decide +kernel
abbrev rmX8_codeOf : Room := { frames := 0, cells := 0, slots := 0, locals := 0 }
noncomputable def fX8_codeOf (x0 : Int32) (x1 : Int32) : Option (Int32) :=
some ((x0 * 16) + x1)
set_option maxHeartbeats 4000000 in
set_option maxRecDepth 100000 in
theorem cX8_codeOfc {l : Launch} {G : xG} {A : Nat → Prop} {σ : St} {x0 : Int32} {x1 : Int32} {c : Int32} (hf : fX8_codeOf x0 x1 = some c) : Con l yX8_codeOf (xws yX8_codeOf cX8_codeOf 2 (some .int)) rmX8_codeOf [.int (x0), .int (x1)] G A σ (some (.int c)) σ := by
  refine x_start rfl (Nat.le_of_ble_eq_true rfl) (fun X _ _ _ C hE0 => ?_)
  have hE : ∀ r, c = r → xE1 X (some (.int r)) σ := fun r e => e ▸ hE0
  show V X (0, 0) σ 0 [(0, .int (x0)), (1, .int (x1))] []
  unfold fX8_codeOf at hf
  refine x_iload_n C dX8_codeOf_0 1 rfl 0 rfl rfl ?_
  refine x_bipush C dX8_codeOf_1 3 rfl 16 (by decide) ?_
  refine x_imul C dX8_codeOf_3 4 rfl ?_
  refine x_iload_n C dX8_codeOf_4 5 rfl 1 rfl rfl ?_
  refine x_iadd C dX8_codeOf_5 6 rfl ?_
  exact x_iret C (hE _ (Option.some.inj hf).symm) dX8_codeOf_6
theorem dX9_choose_0 : decode cX9_choose 0 = .ok (.iconst (-1), 1) := by decide +kernel
theorem dX9_choose_1 : decode cX9_choose 1 = .ok (.istore 4, 2) := by decide +kernel
theorem dX9_choose_3 : decode cX9_choose 3 = .ok (.iconst 0, 1) := by decide +kernel
theorem dX9_choose_4 : decode cX9_choose 4 = .ok (.istore 5, 2) := by decide +kernel
theorem dX9_choose_6 : decode cX9_choose 6 = .ok (.iload 5, 2) := by decide +kernel
theorem dX9_choose_8 : decode cX9_choose 8 = .ok (.lload_n 1, 1) := by decide +kernel
theorem dX9_choose_9 : decode cX9_choose 9 = .ok (.invokestatic 44, 3) := by decide +kernel
theorem dX9_choose_12 : decode cX9_choose 12 = .ok (.if_icmp .ge 123, 3) := by decide +kernel
theorem dX9_choose_15 : decode cX9_choose 15 = .ok (.iconst 0, 1) := by decide +kernel
theorem dX9_choose_16 : decode cX9_choose 16 = .ok (.istore 6, 2) := by decide +kernel
theorem dX9_choose_18 : decode cX9_choose 18 = .ok (.iload 6, 2) := by decide +kernel
theorem dX9_choose_20 : decode cX9_choose 20 = .ok (.aload_n 0, 1) := by decide +kernel
theorem dX9_choose_21 : decode cX9_choose 21 = .ok (.getfield 26, 3) := by decide +kernel
theorem dX9_choose_24 : decode cX9_choose 24 = .ok (.getfield 50, 3) := by decide +kernel
theorem dX9_choose_27 : decode cX9_choose 27 = .ok (.if_icmp .ge 102, 3) := by decide +kernel
theorem dX9_choose_30 : decode cX9_choose 30 = .ok (.lload_n 1, 1) := by decide +kernel
theorem dX9_choose_31 : decode cX9_choose 31 = .ok (.iload 5, 2) := by decide +kernel
theorem dX9_choose_33 : decode cX9_choose 33 = .ok (.aload_n 0, 1) := by decide +kernel
theorem dX9_choose_34 : decode cX9_choose 34 = .ok (.getfield 26, 3) := by decide +kernel
theorem dX9_choose_37 : decode cX9_choose 37 = .ok (.getfield 53, 3) := by decide +kernel
theorem dX9_choose_40 : decode cX9_choose 40 = .ok (.iload 6, 2) := by decide +kernel
theorem dX9_choose_42 : decode cX9_choose 42 = .ok (.laload, 1) := by decide +kernel
theorem dX9_choose_43 : decode cX9_choose 43 = .ok (.aload_n 0, 1) := by decide +kernel
theorem dX9_choose_44 : decode cX9_choose 44 = .ok (.getfield 26, 3) := by decide +kernel
theorem dX9_choose_47 : decode cX9_choose 47 = .ok (.getfield 56, 3) := by decide +kernel
theorem dX9_choose_50 : decode cX9_choose 50 = .ok (.iload 6, 2) := by decide +kernel
theorem dX9_choose_52 : decode cX9_choose 52 = .ok (.laload, 1) := by decide +kernel
theorem dX9_choose_53 : decode cX9_choose 53 = .ok (.invokestatic 59, 3) := by decide +kernel
theorem dX9_choose_56 : decode cX9_choose 56 = .ok (.ifCond .ne 6, 3) := by decide +kernel
theorem dX9_choose_59 : decode cX9_choose 59 = .ok (.goto 64, 3) := by decide +kernel
theorem dX9_choose_62 : decode cX9_choose 62 = .ok (.iload 5, 2) := by decide +kernel
theorem dX9_choose_64 : decode cX9_choose 64 = .ok (.iload 6, 2) := by decide +kernel
theorem dX9_choose_66 : decode cX9_choose 66 = .ok (.invokestatic 63, 3) := by decide +kernel
theorem dX9_choose_69 : decode cX9_choose 69 = .ok (.istore 7, 2) := by decide +kernel
theorem dX9_choose_71 : decode cX9_choose 71 = .ok (.iload_n 3, 1) := by decide +kernel
theorem dX9_choose_72 : decode cX9_choose 72 = .ok (.ifCond .ne 6, 3) := by decide +kernel
theorem dX9_choose_75 : decode cX9_choose 75 = .ok (.iload 7, 2) := by decide +kernel
theorem dX9_choose_77 : decode cX9_choose 77 = .ok (.ireturn, 1) := by decide +kernel
theorem dX9_choose_78 : decode cX9_choose 78 = .ok (.iload 4, 2) := by decide +kernel
theorem dX9_choose_80 : decode cX9_choose 80 = .ok (.iconst (-1), 1) := by decide +kernel
theorem dX9_choose_81 : decode cX9_choose 81 = .ok (.if_icmp .eq 38, 3) := by decide +kernel
theorem dX9_choose_84 : decode cX9_choose 84 = .ok (.iload_n 3, 1) := by decide +kernel
theorem dX9_choose_85 : decode cX9_choose 85 = .ok (.iconst 1, 1) := by decide +kernel
theorem dX9_choose_86 : decode cX9_choose 86 = .ok (.if_icmp .eq 33, 3) := by decide +kernel
theorem dX9_choose_89 : decode cX9_choose 89 = .ok (.aload_n 0, 1) := by decide +kernel
theorem dX9_choose_90 : decode cX9_choose 90 = .ok (.getfield 26, 3) := by decide +kernel
theorem dX9_choose_93 : decode cX9_choose 93 = .ok (.aload_n 0, 1) := by decide +kernel
theorem dX9_choose_94 : decode cX9_choose 94 = .ok (.getfield 26, 3) := by decide +kernel
theorem dX9_choose_97 : decode cX9_choose 97 = .ok (.lload_n 1, 1) := by decide +kernel
theorem dX9_choose_98 : decode cX9_choose 98 = .ok (.iload 7, 2) := by decide +kernel
theorem dX9_choose_100 : decode cX9_choose 100 = .ok (.invokevirtual 38, 3) := by decide +kernel
theorem dX9_choose_103 : decode cX9_choose 103 = .ok (.aload_n 0, 1) := by decide +kernel
theorem dX9_choose_104 : decode cX9_choose 104 = .ok (.getfield 26, 3) := by decide +kernel
theorem dX9_choose_107 : decode cX9_choose 107 = .ok (.lload_n 1, 1) := by decide +kernel
theorem dX9_choose_108 : decode cX9_choose 108 = .ok (.iload 4, 2) := by decide +kernel
theorem dX9_choose_110 : decode cX9_choose 110 = .ok (.invokevirtual 38, 3) := by decide +kernel
theorem dX9_choose_113 : decode cX9_choose 113 = .ok (.invokevirtual 67, 3) := by decide +kernel
theorem dX9_choose_116 : decode cX9_choose 116 = .ok (.ifCond .ge 7, 3) := by decide +kernel
theorem dX9_choose_119 : decode cX9_choose 119 = .ok (.iload 7, 2) := by decide +kernel
theorem dX9_choose_121 : decode cX9_choose 121 = .ok (.istore 4, 2) := by decide +kernel
theorem dX9_choose_123 : decode cX9_choose 123 = .ok (.iinc 6 1, 3) := by decide +kernel
theorem dX9_choose_126 : decode cX9_choose 126 = .ok (.goto (-108), 3) := by decide +kernel
theorem dX9_choose_129 : decode cX9_choose 129 = .ok (.iinc 5 1, 3) := by decide +kernel
theorem dX9_choose_132 : decode cX9_choose 132 = .ok (.goto (-126), 3) := by decide +kernel
theorem dX9_choose_135 : decode cX9_choose 135 = .ok (.iload 4, 2) := by decide +kernel
theorem dX9_choose_137 : decode cX9_choose 137 = .ok (.ireturn, 1) := by decide +kernel
abbrev rmX9_choose : Room := { frames := 2, cells := 0, slots := 0, locals := 90 }
noncomputable def fLX9_choose_18 (σ : St) (x0 : Nat) (x1 : Int64) (x3 : Int32) (x5 : Int32) (a : Int32 × Int32) : Option ((Int32 × Int32) ⊕ ((Int32) ⊕ (Int32))) :=
(gR σ x0 9 0).bind fun v21 =>
(gI σ v21 8 1).bind fun v24 =>
if v24 ≤ a.2 then
(some (Sum.inr (Sum.inr a.1)))
else
((gR σ x0 9 0).bind fun v34 =>
(gR σ v34 8 2).bind fun v37 =>
(aL σ v37 a.2).bind fun v42 =>
(gR σ x0 9 0).bind fun v44 =>
(gR σ v44 8 3).bind fun v47 =>
(aL σ v47 a.2).bind fun v52 =>
(fX10_fits x1 x5 v42 v52).bind fun w53 =>
if w53 = 0 then
(xlet (a.2 + 1) fun v123 =>
some (Sum.inl (a.1, v123)))
else
((fX8_codeOf x5 a.2).bind fun w66 =>
if x3 = 0 then
(some (Sum.inr (Sum.inl w66)))
else
(if a.1 = (((-1) : Int32)) then
(xlet (a.2 + 1) fun v123 =>
some (Sum.inl (w66, v123)))
else
(if x3 = ((1 : Int32)) then
(xlet (a.2 + 1) fun v123 =>
some (Sum.inl (w66, v123)))
else
((gR σ x0 9 0).bind fun v90 =>
(gR σ x0 9 0).bind fun v94 =>
(isO σ v94 8).bind fun _ =>
(fX8_after σ v94 x1 w66).bind fun w100 =>
(gR σ x0 9 0).bind fun v104 =>
(isO σ v104 8).bind fun _ =>
(fX8_after σ v104 x1 a.1).bind fun w110 =>
(isO σ v90 8).bind fun _ =>
(fX8_order σ v90 w100 w110).bind fun w113 =>
if 0 ≤ w113 then
(xlet (a.2 + 1) fun v123 =>
some (Sum.inl (a.1, v123)))
else
(xlet (a.2 + 1) fun v123 =>
some (Sum.inl (w66, v123))))))))
set_option maxHeartbeats 4000000 in
set_option maxRecDepth 100000 in
theorem lpX9_choose_18 {X : xX} {σ : St} {x0 : Nat} {x1 : Int64} {x3 : Int32} {x5 : Int32}  {a0 : Int32 × Int32} {b : (Int32) ⊕ (Int32)} (C : Ok X cX9_choose 8 RX9 rmX9_choose (some .int)) (hb : iterP (fLX9_choose_18 σ x0 x1 x3 x5) a0 = some b) (hy0 : ∀ s, b = (Sum.inl s) → V X (0, 0) σ 75 [(7, .int (s))] []) (hy1 : ∀ s, b = (Sum.inr s) → V X (0, 0) σ 129 [(0, .ref (x0)), (1, .long (x1)), (3, .int (x3)), (4, .int (s)), (5, .int (x5))] []) : V X (0, 0) σ 18 [(0, .ref (x0)), (1, .long (x1)), (3, .int (x3)), (4, .int (a0.1)), (5, .int (x5)), (6, .int (a0.2))] [] := by
  obtain ⟨n, hn⟩ := iterP_some hb
  refine x_loop (P := fun a => V X (0, 0) σ 18 [(0, .ref (x0)), (1, .long (x1)), (3, .int (x3)), (4, .int (a.1)), (5, .int (x5)), (6, .int (a.2))] []) ?_ n a0 hn
  intro a c hf hK hxx
  have hx0 : ∀ s, c = Sum.inr (Sum.inl s) → V X (0, 0) σ 75 [(7, .int (s))] [] := fun s e => hy0 s (hxx _ e).symm
  have hx1 : ∀ s, c = Sum.inr (Sum.inr s) → V X (0, 0) σ 129 [(0, .ref (x0)), (1, .long (x1)), (3, .int (x3)), (4, .int (s)), (5, .int (x5))] [] := fun s e => hy1 s (hxx _ e).symm
  unfold fLX9_choose_18 at hf
  refine x_iload C dX9_choose_18 20 rfl 5 rfl ?_
  refine x_aload_n C dX9_choose_20 21 rfl 0 rfl rfl ?_
  obtain ⟨v21, hv21, hf⟩ := x_bind hf
  refine x_getR C dX9_choose_21 24 rfl hv21 cl9 rfl w312 ?_
  obtain ⟨v24, hv24, hf⟩ := x_bind hf
  refine x_getI C dX9_choose_24 27 rfl hv24 cl8 rfl w186 ?_
  refine x_icmp_ge C dX9_choose_27 129 (by decide) 30 rfl (fun hc => ?_) (fun hc => ?_)
  · have hf := (if_pos hc).symm.trans hf
    refine x_lv [0, 1, 2, 3, 4] (lv' := [(0, .ref (x0)), (1, .long (x1)), (3, .int (x3)), (4, .int (a.1)), (5, .int (x5))]) rfl ?_
    exact hx1 _ (Option.some.inj hf).symm
  · have hf := (if_neg hc).symm.trans hf
    refine x_lload_n C dX9_choose_30 31 rfl 1 rfl rfl ?_
    refine x_iload C dX9_choose_31 33 rfl 4 rfl ?_
    refine x_aload_n C dX9_choose_33 34 rfl 0 rfl rfl ?_
    obtain ⟨v34, hv34, hf⟩ := x_bind hf
    refine x_getR C dX9_choose_34 37 rfl hv34 cl9 rfl w312 ?_
    obtain ⟨v37, hv37, hf⟩ := x_bind hf
    refine x_getR C dX9_choose_37 40 rfl hv37 cl8 rfl w193 ?_
    refine x_iload C dX9_choose_40 42 rfl 5 rfl ?_
    obtain ⟨v42, hv42, hf⟩ := x_bind hf
    refine x_laload C dX9_choose_42 43 rfl hv42 ?_
    refine x_aload_n C dX9_choose_43 44 rfl 0 rfl rfl ?_
    obtain ⟨v44, hv44, hf⟩ := x_bind hf
    refine x_getR C dX9_choose_44 47 rfl hv44 cl9 rfl w312 ?_
    obtain ⟨v47, hv47, hf⟩ := x_bind hf
    refine x_getR C dX9_choose_47 50 rfl hv47 cl8 rfl w198 ?_
    refine x_iload C dX9_choose_50 52 rfl 5 rfl ?_
    obtain ⟨v52, hv52, hf⟩ := x_bind hf
    refine x_laload C dX9_choose_52 53 rfl hv52 ?_
    obtain ⟨w53, hw53, hf⟩ := x_bind hf
    refine x_callSi C dX9_choose_53 56 rfl (cX10_fitsc hw53) kX10_fits ksX10_fits w664 ⟨rfl, rfl⟩ ⟨Nat.le_of_ble_eq_true rfl, Nat.le_of_ble_eq_true rfl⟩ ⟨Nat.zero_le _, Nat.zero_le _⟩ rfl rfl (Nat.le_of_ble_eq_true rfl) ?_
    refine x_if_ne C dX9_choose_56 62 (by decide) 59 rfl (fun hc => ?_) (fun hc => ?_)
    · have hf := (if_neg hc).symm.trans hf
      refine x_iload C dX9_choose_62 64 rfl 4 rfl ?_
      refine x_iload C dX9_choose_64 66 rfl 5 rfl ?_
      obtain ⟨w66, hw66, hf⟩ := x_bind hf
      refine x_callSi C dX9_choose_66 69 rfl (cX8_codeOfc hw66) kX8_codeOf ksX8_codeOf w667 ⟨rfl, rfl⟩ ⟨Nat.le_of_ble_eq_true rfl, Nat.le_of_ble_eq_true rfl⟩ ⟨Nat.zero_le _, Nat.zero_le _⟩ rfl rfl (Nat.le_of_ble_eq_true rfl) ?_
      refine x_istore C dX9_choose_69 71 rfl rfl [(7, .int (w66)), (0, .ref (x0)), (1, .long (x1)), (3, .int (x3)), (4, .int (a.1)), (5, .int (x5)), (6, .int (a.2))] rfl ?_
      refine x_iload_n C dX9_choose_71 72 rfl 3 rfl rfl ?_
      refine x_if_ne C dX9_choose_72 78 (by decide) 75 rfl (fun hc => ?_) (fun hc => ?_)
      · have hf := (if_neg hc).symm.trans hf
        refine x_iload C dX9_choose_78 80 rfl 4 rfl ?_
        refine x_iconst C dX9_choose_80 81 rfl (-1) (by decide) ?_
        refine x_icmp_eq C dX9_choose_81 119 (by decide) 84 rfl (fun hc => ?_) (fun hc => ?_)
        · have hf := (if_pos hc).symm.trans hf
          refine x_iload C dX9_choose_119 121 rfl 0 rfl ?_
          refine x_istore C dX9_choose_121 123 rfl rfl [(4, .int (w66)), (7, .int (w66)), (0, .ref (x0)), (1, .long (x1)), (3, .int (x3)), (5, .int (x5)), (6, .int (a.2))] rfl ?_
          obtain ⟨v123, ev123, hf⟩ := xlet_some hf
          refine x_iinc C dX9_choose_123 126 rfl 6 rfl v123 ev123 rfl [(6, .int (v123)), (4, .int (w66)), (7, .int (w66)), (0, .ref (x0)), (1, .long (x1)), (3, .int (x3)), (5, .int (x5))] rfl ?_
          refine x_goto C dX9_choose_126 18 (by decide) ?_
          refine x_lv [3, 4, 5, 1, 6, 0] (lv' := [(0, .ref (x0)), (1, .long (x1)), (3, .int (x3)), (4, .int (w66)), (5, .int (x5)), (6, .int (v123))]) rfl ?_
          exact hK _ (Option.some.inj hf).symm
        · have hf := (if_neg hc).symm.trans hf
          refine x_iload_n C dX9_choose_84 85 rfl 3 rfl rfl ?_
          refine x_iconst C dX9_choose_85 86 rfl 1 (by decide) ?_
          refine x_icmp_eq C dX9_choose_86 119 (by decide) 89 rfl (fun hc => ?_) (fun hc => ?_)
          · have hf := (if_pos hc).symm.trans hf
            refine x_iload C dX9_choose_119 121 rfl 0 rfl ?_
            refine x_istore C dX9_choose_121 123 rfl rfl [(4, .int (w66)), (7, .int (w66)), (0, .ref (x0)), (1, .long (x1)), (3, .int (x3)), (5, .int (x5)), (6, .int (a.2))] rfl ?_
            obtain ⟨v123, ev123, hf⟩ := xlet_some hf
            refine x_iinc C dX9_choose_123 126 rfl 6 rfl v123 ev123 rfl [(6, .int (v123)), (4, .int (w66)), (7, .int (w66)), (0, .ref (x0)), (1, .long (x1)), (3, .int (x3)), (5, .int (x5))] rfl ?_
            refine x_goto C dX9_choose_126 18 (by decide) ?_
            refine x_lv [3, 4, 5, 1, 6, 0] (lv' := [(0, .ref (x0)), (1, .long (x1)), (3, .int (x3)), (4, .int (w66)), (5, .int (x5)), (6, .int (v123))]) rfl ?_
            exact hK _ (Option.some.inj hf).symm
          · have hf := (if_neg hc).symm.trans hf
            refine x_aload_n C dX9_choose_89 90 rfl 1 rfl rfl ?_
            obtain ⟨v90, hv90, hf⟩ := x_bind hf
            refine x_getR C dX9_choose_90 93 rfl hv90 cl9 rfl w312 ?_
            refine x_aload_n C dX9_choose_93 94 rfl 1 rfl rfl ?_
            obtain ⟨v94, hv94, hf⟩ := x_bind hf
            refine x_getR C dX9_choose_94 97 rfl hv94 cl9 rfl w312 ?_
            refine x_lload_n C dX9_choose_97 98 rfl 2 rfl rfl ?_
            refine x_iload C dX9_choose_98 100 rfl 0 rfl ?_
            obtain ⟨o100, ho100, hf⟩ := x_bind hf
            obtain ⟨w100, hw100, hf⟩ := x_bind hf
            refine x_callVl C dX9_choose_100 103 rfl ho100 cl8.1 rfl (cX8_afterc hw100) kX8_after kvX8_after w670 ⟨rfl, rfl⟩ ⟨Nat.le_of_ble_eq_true rfl, Nat.le_of_ble_eq_true rfl⟩ ⟨Nat.zero_le _, Nat.zero_le _⟩ rfl rfl (Nat.le_of_ble_eq_true rfl) ?_
            refine x_aload_n C dX9_choose_103 104 rfl 1 rfl rfl ?_
            obtain ⟨v104, hv104, hf⟩ := x_bind hf
            refine x_getR C dX9_choose_104 107 rfl hv104 cl9 rfl w312 ?_
            refine x_lload_n C dX9_choose_107 108 rfl 2 rfl rfl ?_
            refine x_iload C dX9_choose_108 110 rfl 4 rfl ?_
            obtain ⟨o110, ho110, hf⟩ := x_bind hf
            obtain ⟨w110, hw110, hf⟩ := x_bind hf
            refine x_callVl C dX9_choose_110 113 rfl ho110 cl8.1 rfl (cX8_afterc hw110) kX8_after kvX8_after w670 ⟨rfl, rfl⟩ ⟨Nat.le_of_ble_eq_true rfl, Nat.le_of_ble_eq_true rfl⟩ ⟨Nat.zero_le _, Nat.zero_le _⟩ rfl rfl (Nat.le_of_ble_eq_true rfl) ?_
            obtain ⟨o113, ho113, hf⟩ := x_bind hf
            obtain ⟨w113, hw113, hf⟩ := x_bind hf
            refine x_callVi C dX9_choose_113 116 rfl ho113 cl8.1 rfl (cX8_orderc hw113) kX8_order kvX8_order w683 ⟨rfl, rfl⟩ ⟨Nat.le_of_ble_eq_true rfl, Nat.le_of_ble_eq_true rfl⟩ ⟨Nat.zero_le _, Nat.zero_le _⟩ rfl rfl (Nat.le_of_ble_eq_true rfl) ?_
            refine x_if_ge C dX9_choose_116 123 (by decide) 119 rfl (fun hc => ?_) (fun hc => ?_)
            · have hf := (if_pos hc).symm.trans hf
              obtain ⟨v123, ev123, hf⟩ := xlet_some hf
              refine x_iinc C dX9_choose_123 126 rfl 6 rfl v123 ev123 rfl [(6, .int (v123)), (7, .int (w66)), (0, .ref (x0)), (1, .long (x1)), (3, .int (x3)), (4, .int (a.1)), (5, .int (x5))] rfl ?_
              refine x_goto C dX9_choose_126 18 (by decide) ?_
              refine x_lv [2, 3, 4, 5, 6, 0] (lv' := [(0, .ref (x0)), (1, .long (x1)), (3, .int (x3)), (4, .int (a.1)), (5, .int (x5)), (6, .int (v123))]) rfl ?_
              exact hK _ (Option.some.inj hf).symm
            · have hf := (if_neg hc).symm.trans hf
              refine x_iload C dX9_choose_119 121 rfl 0 rfl ?_
              refine x_istore C dX9_choose_121 123 rfl rfl [(4, .int (w66)), (7, .int (w66)), (0, .ref (x0)), (1, .long (x1)), (3, .int (x3)), (5, .int (x5)), (6, .int (a.2))] rfl ?_
              obtain ⟨v123, ev123, hf⟩ := xlet_some hf
              refine x_iinc C dX9_choose_123 126 rfl 6 rfl v123 ev123 rfl [(6, .int (v123)), (4, .int (w66)), (7, .int (w66)), (0, .ref (x0)), (1, .long (x1)), (3, .int (x3)), (5, .int (x5))] rfl ?_
              refine x_goto C dX9_choose_126 18 (by decide) ?_
              refine x_lv [3, 4, 5, 1, 6, 0] (lv' := [(0, .ref (x0)), (1, .long (x1)), (3, .int (x3)), (4, .int (w66)), (5, .int (x5)), (6, .int (v123))]) rfl ?_
              exact hK _ (Option.some.inj hf).symm
      · have hf := (if_pos hc).symm.trans hf
        refine x_lv [0] (lv' := [(7, .int (w66))]) rfl ?_
        exact hx0 _ (Option.some.inj hf).symm
    · have hf := (if_pos hc).symm.trans hf
      refine x_goto C dX9_choose_59 123 (by decide) ?_
      obtain ⟨v123, ev123, hf⟩ := xlet_some hf
      refine x_iinc C dX9_choose_123 126 rfl 5 rfl v123 ev123 rfl [(6, .int (v123)), (0, .ref (x0)), (1, .long (x1)), (3, .int (x3)), (4, .int (a.1)), (5, .int (x5))] rfl ?_
      refine x_goto C dX9_choose_126 18 (by decide) ?_
      refine x_lv [1, 2, 3, 4, 5, 0] (lv' := [(0, .ref (x0)), (1, .long (x1)), (3, .int (x3)), (4, .int (a.1)), (5, .int (x5)), (6, .int (v123))]) rfl ?_
      exact hK _ (Option.some.inj hf).symm
noncomputable def fLX9_choose_6 (σ : St) (x0 : Nat) (x1 : Int64) (x3 : Int32) (a : Int32 × Int32) : Option ((Int32 × Int32) ⊕ ((Int32) ⊕ (Int32))) :=
(fX10_length x1).bind fun w9 =>
if w9 ≤ a.2 then
(some (Sum.inr (Sum.inr a.1)))
else
((iterP (fLX9_choose_18 σ x0 x1 x3 a.2) (a.1, 0)).bind fun b18 =>
(match b18 with
| .inl s18 =>
some (Sum.inr (Sum.inl s18))
| .inr s18 =>
xlet (a.2 + 1) fun v129 =>
some (Sum.inl (s18, v129))))
set_option maxHeartbeats 4000000 in
set_option maxRecDepth 100000 in
theorem lpX9_choose_6 {X : xX} {σ : St} {x0 : Nat} {x1 : Int64} {x3 : Int32}  {a0 : Int32 × Int32} {b : (Int32) ⊕ (Int32)} (C : Ok X cX9_choose 8 RX9 rmX9_choose (some .int)) (hb : iterP (fLX9_choose_6 σ x0 x1 x3) a0 = some b) (hy0 : ∀ s, b = (Sum.inl s) → V X (0, 0) σ 75 [(7, .int (s))] []) (hy1 : ∀ s, b = (Sum.inr s) → V X (0, 0) σ 135 [(4, .int (s))] []) : V X (0, 0) σ 6 [(0, .ref (x0)), (1, .long (x1)), (3, .int (x3)), (4, .int (a0.1)), (5, .int (a0.2))] [] := by
  obtain ⟨n, hn⟩ := iterP_some hb
  refine x_loop (P := fun a => V X (0, 0) σ 6 [(0, .ref (x0)), (1, .long (x1)), (3, .int (x3)), (4, .int (a.1)), (5, .int (a.2))] []) ?_ n a0 hn
  intro a c hf hK hxx
  have hx0 : ∀ s, c = Sum.inr (Sum.inl s) → V X (0, 0) σ 75 [(7, .int (s))] [] := fun s e => hy0 s (hxx _ e).symm
  have hx1 : ∀ s, c = Sum.inr (Sum.inr s) → V X (0, 0) σ 135 [(4, .int (s))] [] := fun s e => hy1 s (hxx _ e).symm
  unfold fLX9_choose_6 at hf
  refine x_iload C dX9_choose_6 8 rfl 4 rfl ?_
  refine x_lload_n C dX9_choose_8 9 rfl 1 rfl rfl ?_
  obtain ⟨w9, hw9, hf⟩ := x_bind hf
  refine x_callSi C dX9_choose_9 12 rfl (cX10_lengthc hw9) kX10_length ksX10_length w663 ⟨rfl, rfl⟩ ⟨Nat.le_of_ble_eq_true rfl, Nat.le_of_ble_eq_true rfl⟩ ⟨Nat.zero_le _, Nat.zero_le _⟩ rfl rfl (Nat.le_of_ble_eq_true rfl) ?_
  refine x_icmp_ge C dX9_choose_12 135 (by decide) 15 rfl (fun hc => ?_) (fun hc => ?_)
  · have hf := (if_pos hc).symm.trans hf
    refine x_lv [3] (lv' := [(4, .int (a.1))]) rfl ?_
    exact hx1 _ (Option.some.inj hf).symm
  · have hf := (if_neg hc).symm.trans hf
    refine x_iconst C dX9_choose_15 16 rfl 0 (by decide) ?_
    refine x_istore C dX9_choose_16 18 rfl rfl [(6, .int (0)), (0, .ref (x0)), (1, .long (x1)), (3, .int (x3)), (4, .int (a.1)), (5, .int (a.2))] rfl ?_
    obtain ⟨b18, hb18, hf⟩ := x_bind hf
    refine x_lv [1, 2, 3, 4, 5, 0] (lv' := [(0, .ref (x0)), (1, .long (x1)), (3, .int (x3)), (4, .int (a.1)), (5, .int (a.2)), (6, .int (0))]) rfl ?_
    refine lpX9_choose_18 C hb18 (fun s18 e18 => ?_) (fun s18 e18 => ?_)
    · subst e18
      try dsimp only at hf
      exact hx0 _ (Option.some.inj hf).symm
    · subst e18
      try dsimp only at hf
      obtain ⟨v129, ev129, hf⟩ := xlet_some hf
      refine x_iinc C dX9_choose_129 132 rfl 4 rfl v129 ev129 rfl [(5, .int (v129)), (0, .ref (x0)), (1, .long (x1)), (3, .int (x3)), (4, .int (s18))] rfl ?_
      refine x_goto C dX9_choose_132 6 (by decide) ?_
      refine x_lv [1, 2, 3, 4, 0] (lv' := [(0, .ref (x0)), (1, .long (x1)), (3, .int (x3)), (4, .int (s18)), (5, .int (v129))]) rfl ?_
      exact hK _ (Option.some.inj hf).symm
noncomputable def fX9_choose (σ : St) (x0 : Nat) (x1 : Int64) (x3 : Int32) : Option (Int32) :=
(iterP (fLX9_choose_6 σ x0 x1 x3) ((-1), 0)).bind fun b6 =>
(match b6 with
| .inl s6 =>
some s6
| .inr s6 =>
some s6)
set_option maxHeartbeats 4000000 in
set_option maxRecDepth 100000 in
theorem cX9_choosec {l : Launch} {G : xG} {A : Nat → Prop} {σ : St} {x0 : Nat} {x1 : Int64} {x3 : Int32} {c : Int32} (hf : fX9_choose σ x0 x1 x3 = some c) : Con l yX9_choose (xws yX9_choose cX9_choose 8 (some .int)) rmX9_choose [.ref (x0), .long (x1), .int (x3)] G A σ (some (.int c)) σ := by
  refine x_start rfl (Nat.le_of_ble_eq_true rfl) (fun X _ _ _ C hE0 => ?_)
  have hE : ∀ r, c = r → xE1 X (some (.int r)) σ := fun r e => e ▸ hE0
  show V X (0, 0) σ 0 [(0, .ref (x0)), (1, .long (x1)), (3, .int (x3))] []
  unfold fX9_choose at hf
  refine x_iconst C dX9_choose_0 1 rfl (-1) (by decide) ?_
  refine x_istore C dX9_choose_1 3 rfl rfl [(4, .int ((-1))), (0, .ref (x0)), (1, .long (x1)), (3, .int (x3))] rfl ?_
  refine x_iconst C dX9_choose_3 4 rfl 0 (by decide) ?_
  refine x_istore C dX9_choose_4 6 rfl rfl [(5, .int (0)), (4, .int ((-1))), (0, .ref (x0)), (1, .long (x1)), (3, .int (x3))] rfl ?_
  obtain ⟨b6, hb6, hf⟩ := x_bind hf
  refine x_lv [2, 3, 4, 1, 0] (lv' := [(0, .ref (x0)), (1, .long (x1)), (3, .int (x3)), (4, .int ((-1))), (5, .int (0))]) rfl ?_
  refine lpX9_choose_6 C hb6 (fun s6 e6 => ?_) (fun s6 e6 => ?_)
  · subst e6
    try dsimp only at hf
    refine x_iload C dX9_choose_75 77 rfl 0 rfl ?_
    exact x_iret C (hE _ (Option.some.inj hf).symm) dX9_choose_77
  · subst e6
    try dsimp only at hf
    refine x_iload C dX9_choose_135 137 rfl 0 rfl ?_
    exact x_iret C (hE _ (Option.some.inj hf).symm) dX9_choose_137
