/-! methods that read String constants -/
theorem dX12_isWord_0 : decode cX12_isWord 0 = .ok (.aload_n 0, 1) := by decide +kernel
theorem dX12_isWord_1 : decode cX12_isWord 1 = .ok (.getfield 195, 3) := by decide +kernel
theorem dX12_isWord_4 : decode cX12_isWord 4 = .ok (.sipush 1000, 3) := by decide +kernel
theorem dX12_isWord_7 : decode cX12_isWord 7 = .ok (.if_icmp .ne 19, 3) := by decide +kernel
theorem dX12_isWord_10 : decode cX12_isWord 10 = .ok (.aload_n 0, 1) := by decide +kernel
theorem dX12_isWord_11 : decode cX12_isWord 11 = .ok (.getfield 186, 3) := by decide +kernel
theorem dX12_isWord_14 : decode cX12_isWord 14 = .ok (.aload_n 0, 1) := by decide +kernel
theorem dX12_isWord_15 : decode cX12_isWord 15 = .ok (.getfield 192, 3) := by decide +kernel
theorem dX12_isWord_18 : decode cX12_isWord 18 = .ok (.isub, 1) := by decide +kernel
theorem dX12_isWord_19 : decode cX12_isWord 19 = .ok (.aload_n 1, 1) := by decide +kernel
theorem dX12_isWord_20 : decode cX12_isWord 20 = .ok (.invokevirtual 216, 3) := by decide +kernel
theorem dX12_isWord_23 : decode cX12_isWord 23 = .ok (.if_icmp .eq 5, 3) := by decide +kernel
theorem dX12_isWord_26 : decode cX12_isWord 26 = .ok (.iconst 0, 1) := by decide +kernel
theorem dX12_isWord_27 : decode cX12_isWord 27 = .ok (.ireturn, 1) := by decide +kernel
theorem dX12_isWord_28 : decode cX12_isWord 28 = .ok (.iconst 0, 1) := by decide +kernel
theorem dX12_isWord_29 : decode cX12_isWord 29 = .ok (.istore_n 2, 1) := by decide +kernel
theorem dX12_isWord_30 : decode cX12_isWord 30 = .ok (.iload_n 2, 1) := by decide +kernel
theorem dX12_isWord_31 : decode cX12_isWord 31 = .ok (.aload_n 1, 1) := by decide +kernel
theorem dX12_isWord_32 : decode cX12_isWord 32 = .ok (.invokevirtual 216, 3) := by decide +kernel
theorem dX12_isWord_35 : decode cX12_isWord 35 = .ok (.if_icmp .ge 29, 3) := by decide +kernel
theorem dX12_isWord_38 : decode cX12_isWord 38 = .ok (.aload_n 0, 1) := by decide +kernel
theorem dX12_isWord_39 : decode cX12_isWord 39 = .ok (.aload_n 0, 1) := by decide +kernel
theorem dX12_isWord_40 : decode cX12_isWord 40 = .ok (.getfield 192, 3) := by decide +kernel
theorem dX12_isWord_43 : decode cX12_isWord 43 = .ok (.iload_n 2, 1) := by decide +kernel
theorem dX12_isWord_44 : decode cX12_isWord 44 = .ok (.iadd, 1) := by decide +kernel
theorem dX12_isWord_45 : decode cX12_isWord 45 = .ok (.invokevirtual 189, 3) := by decide +kernel
theorem dX12_isWord_48 : decode cX12_isWord 48 = .ok (.aload_n 1, 1) := by decide +kernel
theorem dX12_isWord_49 : decode cX12_isWord 49 = .ok (.iload_n 2, 1) := by decide +kernel
theorem dX12_isWord_50 : decode cX12_isWord 50 = .ok (.invokevirtual 221, 3) := by decide +kernel
theorem dX12_isWord_53 : decode cX12_isWord 53 = .ok (.if_icmp .eq 5, 3) := by decide +kernel
theorem dX12_isWord_56 : decode cX12_isWord 56 = .ok (.iconst 0, 1) := by decide +kernel
theorem dX12_isWord_57 : decode cX12_isWord 57 = .ok (.ireturn, 1) := by decide +kernel
theorem dX12_isWord_58 : decode cX12_isWord 58 = .ok (.iinc 2 1, 3) := by decide +kernel
theorem dX12_isWord_61 : decode cX12_isWord 61 = .ok (.goto (-31), 3) := by decide +kernel
theorem dX12_isWord_64 : decode cX12_isWord 64 = .ok (.iconst 1, 1) := by decide +kernel
theorem dX12_isWord_65 : decode cX12_isWord 65 = .ok (.ireturn, 1) := by decide +kernel
abbrev rmX12_isWord : Room := { frames := 5, cells := 0, slots := 0, locals := 110 }
noncomputable def fLX12_isWord_30 (σ : St) (x0 : Nat) (x1 : Nat) (a : Int32) : Option ((Int32) ⊕ ((Unit) ⊕ (Unit))) :=
(slen x1).bind fun w32 =>
if w32 ≤ a then
(some (Sum.inr (Sum.inr ())))
else
((gI σ x0 11 10).bind fun v40 =>
(isO σ x0 11).bind fun _ =>
(fX12_byteAt σ x0 (v40 + a)).bind fun w45 =>
(sch x1 a).bind fun w50 =>
if w45 = w50 then
(xlet (a + 1) fun v58 =>
some (Sum.inl v58))
else
(some (Sum.inr (Sum.inl ()))))
set_option maxHeartbeats 4000000 in
set_option maxRecDepth 100000 in
theorem lpX12_isWord_30 {X : xX} {σ : St} {x0 : Nat} {x1 : Nat}  {a0 : Int32} {b : (Unit) ⊕ (Unit)} (C : Ok X cX12_isWord 3 RX12 rmX12_isWord (some .boolean)) {adK adV : Nat → Nat} (Ev : xEnv adK adV (xA X) (xs X)) (hb : iterP (fLX12_isWord_30 σ x0 x1) a0 = some b) (hy0 : ∀ s, b = (Sum.inl s) → V X (0, 0) σ 56 [] []) (hy1 : ∀ s, b = (Sum.inr s) → V X (0, 0) σ 64 [] []) : V X (0, 0) σ 30 [(0, .ref (x0)), (1, .ref (adK (x1))), (2, .int (a0))] [] := by
  obtain ⟨n, hn⟩ := iterP_some hb
  refine x_loop (P := fun a => V X (0, 0) σ 30 [(0, .ref (x0)), (1, .ref (adK (x1))), (2, .int (a))] []) ?_ n a0 hn
  intro a c hf hK hxx
  have hx0 : ∀ s, c = Sum.inr (Sum.inl s) → V X (0, 0) σ 56 [] [] := fun s e => hy0 s (hxx _ e).symm
  have hx1 : ∀ s, c = Sum.inr (Sum.inr s) → V X (0, 0) σ 64 [] [] := fun s e => hy1 s (hxx _ e).symm
  unfold fLX12_isWord_30 at hf
  refine x_iload_n C dX12_isWord_30 31 rfl 2 rfl rfl ?_
  refine x_aload_n C dX12_isWord_31 32 rfl 1 rfl rfl ?_
  obtain ⟨w32, hw32, hf⟩ := x_bind hf
  refine y_slen C Ev hw32 dX12_isWord_32 35 rfl w1677 ⟨Nat.le_of_ble_eq_true rfl, Nat.le_of_ble_eq_true rfl⟩ (Nat.le_of_ble_eq_true rfl) ?_
  refine x_icmp_ge C dX12_isWord_35 64 (by decide) 38 rfl (fun hc => ?_) (fun hc => ?_)
  · have hf := (if_pos hc).symm.trans hf
    refine x_lv [] (lv' := []) rfl ?_
    exact hx1 _ (Option.some.inj hf).symm
  · have hf := (if_neg hc).symm.trans hf
    refine x_aload_n C dX12_isWord_38 39 rfl 0 rfl rfl ?_
    refine x_aload_n C dX12_isWord_39 40 rfl 0 rfl rfl ?_
    obtain ⟨v40, hv40, hf⟩ := x_bind hf
    refine x_getI C dX12_isWord_40 43 rfl hv40 cl11 rfl w1453 ?_
    refine x_iload_n C dX12_isWord_43 44 rfl 2 rfl rfl ?_
    refine x_iadd C dX12_isWord_44 45 rfl ?_
    obtain ⟨o45, ho45, hf⟩ := x_bind hf
    obtain ⟨w45, hw45, hf⟩ := x_bind hf
    refine x_callVi C dX12_isWord_45 48 rfl ho45 cl11.1 rfl (cX12_byteAtc hw45) kX12_byteAt kvX12_byteAt w1656 ⟨rfl, rfl⟩ ⟨Nat.le_of_ble_eq_true rfl, Nat.le_of_ble_eq_true rfl⟩ ⟨Nat.zero_le _, Nat.zero_le _⟩ rfl rfl (Nat.le_of_ble_eq_true rfl) ?_
    refine x_aload_n C dX12_isWord_48 49 rfl 1 rfl rfl ?_
    refine x_iload_n C dX12_isWord_49 50 rfl 2 rfl rfl ?_
    obtain ⟨w50, hw50, hf⟩ := x_bind hf
    refine y_sch C Ev hw50 dX12_isWord_50 53 rfl w1678 ⟨Nat.le_of_ble_eq_true rfl, Nat.le_of_ble_eq_true rfl⟩ (Nat.le_of_ble_eq_true rfl) ?_
    refine x_icmp_eq C dX12_isWord_53 58 (by decide) 56 rfl (fun hc => ?_) (fun hc => ?_)
    · have hf := (if_pos hc).symm.trans hf
      obtain ⟨v58, ev58, hf⟩ := xlet_some hf
      refine x_iinc C dX12_isWord_58 61 rfl 2 rfl v58 ev58 rfl [(2, .int (v58)), (0, .ref (x0)), (1, .ref (adK (x1)))] rfl ?_
      refine x_goto C dX12_isWord_61 30 (by decide) ?_
      refine x_lv [1, 2, 0] (lv' := [(0, .ref (x0)), (1, .ref (adK (x1))), (2, .int (v58))]) rfl ?_
      exact hK _ (Option.some.inj hf).symm
    · have hf := (if_neg hc).symm.trans hf
      refine x_lv [] (lv' := []) rfl ?_
      exact hx0 _ (Option.some.inj hf).symm
noncomputable def fX12_isWord (σ : St) (x0 : Nat) (x1 : Nat) : Option (Int32) :=
(gI σ x0 11 11).bind fun v1 =>
if v1 = ((1000 : Int32)) then
((gI σ x0 11 9).bind fun v11 =>
(gI σ x0 11 10).bind fun v15 =>
(slen x1).bind fun w20 =>
if (v11 - v15) = w20 then
((iterP (fLX12_isWord_30 σ x0 x1) 0).bind fun b30 =>
(match b30 with
| .inl s30 =>
some 0
| .inr s30 =>
some 1))
else
(some 0))
else
(some 0)
set_option maxHeartbeats 4000000 in
set_option maxRecDepth 100000 in
theorem cX12_isWordc {l : Launch} {adK adV : Nat → Nat} {G : xG} {A : Nat → Prop} {σ : St} {x0 : Nat} {x1 : Nat} {c : Int32} (hf : fX12_isWord σ x0 x1 = some c) : ConS l yX12_isWord (xws yX12_isWord cX12_isWord 3 (some .boolean)) rmX12_isWord [.ref (x0), .ref (adK (x1))] adK adV G A σ (some (.int c)) σ := by
  refine s_start rfl (Nat.le_of_ble_eq_true rfl) (fun X _ _ _ C Ev hE0 => ?_)
  have hE : ∀ r, c = r → xE1 X (some (.int r)) σ := fun r e => e ▸ hE0
  show V X (0, 0) σ 0 [(0, .ref (x0)), (1, .ref (adK (x1)))] []
  unfold fX12_isWord at hf
  refine x_aload_n C dX12_isWord_0 1 rfl 0 rfl rfl ?_
  obtain ⟨v1, hv1, hf⟩ := x_bind hf
  refine x_getI C dX12_isWord_1 4 rfl hv1 cl11 rfl w1454 ?_
  refine x_sipush C dX12_isWord_4 7 rfl 1000 (by decide) ?_
  refine x_icmp_ne C dX12_isWord_7 26 (by decide) 10 rfl (fun hc => ?_) (fun hc => ?_)
  · have hf := (if_neg hc).symm.trans hf
    refine x_iconst C dX12_isWord_26 27 rfl 0 (by decide) ?_
    exact x_zret C rfl (hE _ (Option.some.inj hf).symm) dX12_isWord_27
  · have hf := (if_pos hc).symm.trans hf
    refine x_aload_n C dX12_isWord_10 11 rfl 0 rfl rfl ?_
    obtain ⟨v11, hv11, hf⟩ := x_bind hf
    refine x_getI C dX12_isWord_11 14 rfl hv11 cl11 rfl w1452 ?_
    refine x_aload_n C dX12_isWord_14 15 rfl 0 rfl rfl ?_
    obtain ⟨v15, hv15, hf⟩ := x_bind hf
    refine x_getI C dX12_isWord_15 18 rfl hv15 cl11 rfl w1453 ?_
    refine x_isub C dX12_isWord_18 19 rfl ?_
    refine x_aload_n C dX12_isWord_19 20 rfl 1 rfl rfl ?_
    obtain ⟨w20, hw20, hf⟩ := x_bind hf
    refine y_slen C Ev hw20 dX12_isWord_20 23 rfl w1677 ⟨Nat.le_of_ble_eq_true rfl, Nat.le_of_ble_eq_true rfl⟩ (Nat.le_of_ble_eq_true rfl) ?_
    refine x_icmp_eq C dX12_isWord_23 28 (by decide) 26 rfl (fun hc => ?_) (fun hc => ?_)
    · have hf := (if_pos hc).symm.trans hf
      refine x_iconst C dX12_isWord_28 29 rfl 0 (by decide) ?_
      refine x_istore_n C dX12_isWord_29 30 rfl rfl rfl [(2, .int (0)), (0, .ref (x0)), (1, .ref (adK (x1)))] rfl ?_
      obtain ⟨b30, hb30, hf⟩ := x_bind hf
      refine x_lv [1, 2, 0] (lv' := [(0, .ref (x0)), (1, .ref (adK (x1))), (2, .int (0))]) rfl ?_
      refine lpX12_isWord_30 C Ev hb30 (fun s30 e30 => ?_) (fun s30 e30 => ?_)
      · subst e30
        try dsimp only at hf
        refine x_iconst C dX12_isWord_56 57 rfl 0 (by decide) ?_
        exact x_zret C rfl (hE _ (Option.some.inj hf).symm) dX12_isWord_57
      · subst e30
        try dsimp only at hf
        refine x_iconst C dX12_isWord_64 65 rfl 1 (by decide) ?_
        exact x_zret C rfl (hE _ (Option.some.inj hf).symm) dX12_isWord_65
    · have hf := (if_neg hc).symm.trans hf
      refine x_iconst C dX12_isWord_26 27 rfl 0 (by decide) ?_
      exact x_zret C rfl (hE _ (Option.some.inj hf).symm) dX12_isWord_27
theorem dX12_readsLine_0 : decode cX12_readsLine 0 = .ok (.aload_n 0, 1) := by decide +kernel
theorem dX12_readsLine_1 : decode cX12_readsLine 1 = .ok (.ldc 246, 2) := by decide +kernel
theorem dX12_readsLine_3 : decode cX12_readsLine 3 = .ok (.invokevirtual 248, 3) := by decide +kernel
theorem dX12_readsLine_6 : decode cX12_readsLine 6 = .ok (.ifCond .eq 10, 3) := by decide +kernel
theorem dX12_readsLine_9 : decode cX12_readsLine 9 = .ok (.aload_n 0, 1) := by decide +kernel
theorem dX12_readsLine_10 : decode cX12_readsLine 10 = .ok (.invokevirtual 252, 3) := by decide +kernel
theorem dX12_readsLine_13 : decode cX12_readsLine 13 = .ok (.goto 84, 3) := by decide +kernel
theorem dX12_readsLine_16 : decode cX12_readsLine 16 = .ok (.aload_n 0, 1) := by decide +kernel
theorem dX12_readsLine_17 : decode cX12_readsLine 17 = .ok (.ldc 255, 2) := by decide +kernel
theorem dX12_readsLine_19 : decode cX12_readsLine 19 = .ok (.invokevirtual 248, 3) := by decide +kernel
theorem dX12_readsLine_22 : decode cX12_readsLine 22 = .ok (.ifCond .eq 10, 3) := by decide +kernel
theorem dX12_readsLine_25 : decode cX12_readsLine 25 = .ok (.aload_n 0, 1) := by decide +kernel
theorem dX12_readsLine_26 : decode cX12_readsLine 26 = .ok (.invokevirtual 257, 3) := by decide +kernel
theorem dX12_readsLine_29 : decode cX12_readsLine 29 = .ok (.goto 68, 3) := by decide +kernel
theorem dX12_readsLine_32 : decode cX12_readsLine 32 = .ok (.aload_n 0, 1) := by decide +kernel
theorem dX12_readsLine_33 : decode cX12_readsLine 33 = .ok (.aload_n 0, 1) := by decide +kernel
theorem dX12_readsLine_34 : decode cX12_readsLine 34 = .ok (.ldc_w 260, 3) := by decide +kernel
theorem dX12_readsLine_37 : decode cX12_readsLine 37 = .ok (.invokevirtual 248, 3) := by decide +kernel
theorem dX12_readsLine_40 : decode cX12_readsLine 40 = .ok (.iconst 1, 1) := by decide +kernel
theorem dX12_readsLine_41 : decode cX12_readsLine 41 = .ok (.invokevirtual 225, 3) := by decide +kernel
theorem dX12_readsLine_44 : decode cX12_readsLine 44 = .ok (.ifCond .eq 53, 3) := by decide +kernel
theorem dX12_readsLine_47 : decode cX12_readsLine 47 = .ok (.aload_n 0, 1) := by decide +kernel
theorem dX12_readsLine_48 : decode cX12_readsLine 48 = .ok (.invokevirtual 229, 3) := by decide +kernel
theorem dX12_readsLine_51 : decode cX12_readsLine 51 = .ok (.aload_n 0, 1) := by decide +kernel
theorem dX12_readsLine_52 : decode cX12_readsLine 52 = .ok (.iconst 1, 1) := by decide +kernel
theorem dX12_readsLine_53 : decode cX12_readsLine 53 = .ok (.iconst 1, 1) := by decide +kernel
theorem dX12_readsLine_54 : decode cX12_readsLine 54 = .ok (.invokevirtual 240, 3) := by decide +kernel
theorem dX12_readsLine_57 : decode cX12_readsLine 57 = .ok (.lstore_n 1, 1) := by decide +kernel
theorem dX12_readsLine_58 : decode cX12_readsLine 58 = .ok (.aload_n 0, 1) := by decide +kernel
theorem dX12_readsLine_59 : decode cX12_readsLine 59 = .ok (.invokevirtual 212, 3) := by decide +kernel
theorem dX12_readsLine_62 : decode cX12_readsLine 62 = .ok (.ifCond .eq 7, 3) := by decide +kernel
theorem dX12_readsLine_65 : decode cX12_readsLine 65 = .ok (.aload_n 0, 1) := by decide +kernel
theorem dX12_readsLine_66 : decode cX12_readsLine 66 = .ok (.invokevirtual 229, 3) := by decide +kernel
theorem dX12_readsLine_69 : decode cX12_readsLine 69 = .ok (.aload_n 0, 1) := by decide +kernel
theorem dX12_readsLine_70 : decode cX12_readsLine 70 = .ok (.iconst 1, 1) := by decide +kernel
theorem dX12_readsLine_71 : decode cX12_readsLine 71 = .ok (.bipush 9, 2) := by decide +kernel
theorem dX12_readsLine_73 : decode cX12_readsLine 73 = .ok (.invokevirtual 262, 3) := by decide +kernel
theorem dX12_readsLine_76 : decode cX12_readsLine 76 = .ok (.istore_n 3, 1) := by decide +kernel
theorem dX12_readsLine_77 : decode cX12_readsLine 77 = .ok (.aload_n 0, 1) := by decide +kernel
theorem dX12_readsLine_78 : decode cX12_readsLine 78 = .ok (.invokevirtual 212, 3) := by decide +kernel
theorem dX12_readsLine_81 : decode cX12_readsLine 81 = .ok (.ifCond .eq 16, 3) := by decide +kernel
theorem dX12_readsLine_84 : decode cX12_readsLine 84 = .ok (.aload_n 0, 1) := by decide +kernel
theorem dX12_readsLine_85 : decode cX12_readsLine 85 = .ok (.getfield 30, 3) := by decide +kernel
theorem dX12_readsLine_88 : decode cX12_readsLine 88 = .ok (.iconst 2, 1) := by decide +kernel
theorem dX12_readsLine_89 : decode cX12_readsLine 89 = .ok (.lload_n 1, 1) := by decide +kernel
theorem dX12_readsLine_90 : decode cX12_readsLine 90 = .ok (.l2i, 1) := by decide +kernel
theorem dX12_readsLine_91 : decode cX12_readsLine 91 = .ok (.iadd, 1) := by decide +kernel
theorem dX12_readsLine_92 : decode cX12_readsLine 92 = .ok (.iconst 1, 1) := by decide +kernel
theorem dX12_readsLine_93 : decode cX12_readsLine 93 = .ok (.isub, 1) := by decide +kernel
theorem dX12_readsLine_94 : decode cX12_readsLine 94 = .ok (.iload_n 3, 1) := by decide +kernel
theorem dX12_readsLine_95 : decode cX12_readsLine 95 = .ok (.i2l, 1) := by decide +kernel
theorem dX12_readsLine_96 : decode cX12_readsLine 96 = .ok (.lastore, 1) := by decide +kernel
theorem dX12_readsLine_97 : decode cX12_readsLine 97 = .ok (.return_, 1) := by decide +kernel
abbrev rmX12_readsLine : Room := { frames := 6, cells := 0, slots := 0, locals := 132 }
noncomputable def fJX12_readsLine_m_69 (σ : St) (x0 : Nat) (x1 : Int64)  : Option (St) :=
(isO σ x0 11).bind fun _ =>
(fX12_number σ x0 1 9).bind fun w73 =>
(isO w73.2 x0 11).bind fun _ =>
(fX12_fine w73.2 x0).bind fun w78 =>
if w78 = 0 then
(some w73.2)
else
((gR w73.2 x0 11 15).bind fun v85 =>
(sL w73.2 v85 ((2 + x1.toInt32) - 1) w73.1.toInt64).bind fun σ96 =>
some σ96)
set_option maxHeartbeats 4000000 in
set_option maxRecDepth 100000 in
theorem jnX12_readsLine_m_69 {X : xX} {σ : St} {x0 : Nat} {x1 : Int64}   {c : St} (C : Ok X cX12_readsLine 4 RX12 rmX12_readsLine none) {adK adV : Nat → Nat} (Ev : xEnv adK adV (xA X) (xs X)) (hf : fJX12_readsLine_m_69 σ x0 x1  = some c) (hE : ∀ r, c = r → xE1 X none r) : V X (0, 0) σ 69 [(0, .ref (x0)), (1, .long (x1))] [] := by
  unfold fJX12_readsLine_m_69 at hf
  refine x_aload_n C dX12_readsLine_69 70 rfl 0 rfl rfl ?_
  refine x_iconst C dX12_readsLine_70 71 rfl 1 (by decide) ?_
  refine x_bipush C dX12_readsLine_71 73 rfl 9 (by decide) ?_
  obtain ⟨o73, ho73, hf⟩ := x_bind hf
  obtain ⟨w73, hw73, hf⟩ := x_bind hf
  refine x_callVi C dX12_readsLine_73 76 rfl ho73 cl11.1 rfl (cX12_numberc hw73) kX12_number kvX12_number w1687 ⟨rfl, rfl⟩ ⟨Nat.le_of_ble_eq_true rfl, Nat.le_of_ble_eq_true rfl⟩ ⟨Nat.zero_le _, Nat.zero_le _⟩ rfl rfl (Nat.le_of_ble_eq_true rfl) ?_
  refine x_istore_n C dX12_readsLine_76 77 rfl rfl rfl [(3, .int (w73.1)), (0, .ref (x0)), (1, .long (x1))] rfl ?_
  refine x_aload_n C dX12_readsLine_77 78 rfl 1 rfl rfl ?_
  obtain ⟨o78, ho78, hf⟩ := x_bind hf
  obtain ⟨w78, hw78, hf⟩ := x_bind hf
  refine x_callVi C dX12_readsLine_78 81 rfl ho78 cl11.1 rfl (cX12_finec hw78) kX12_fine kvX12_fine w1683 ⟨rfl, rfl⟩ ⟨Nat.le_of_ble_eq_true rfl, Nat.le_of_ble_eq_true rfl⟩ ⟨Nat.zero_le _, Nat.zero_le _⟩ rfl rfl (Nat.le_of_ble_eq_true rfl) ?_
  refine x_if_eq C dX12_readsLine_81 97 (by decide) 84 rfl (fun hc => ?_) (fun hc => ?_)
  · have hf := (if_pos hc).symm.trans hf
    exact x_vret C (hE _ (Option.some.inj hf).symm) dX12_readsLine_97
  · have hf := (if_neg hc).symm.trans hf
    refine x_aload_n C dX12_readsLine_84 85 rfl 1 rfl rfl ?_
    obtain ⟨v85, hv85, hf⟩ := x_bind hf
    refine x_getR C dX12_readsLine_85 88 rfl hv85 cl11 rfl w1458 ?_
    refine x_iconst C dX12_readsLine_88 89 rfl 2 (by decide) ?_
    refine x_lload_n C dX12_readsLine_89 90 rfl 2 rfl rfl ?_
    refine x_l2i C dX12_readsLine_90 91 rfl ?_
    refine x_iadd C dX12_readsLine_91 92 rfl ?_
    refine x_iconst C dX12_readsLine_92 93 rfl 1 (by decide) ?_
    refine x_isub C dX12_readsLine_93 94 rfl ?_
    refine x_iload_n C dX12_readsLine_94 95 rfl 0 rfl rfl ?_
    refine x_i2l C dX12_readsLine_95 96 rfl ?_
    obtain ⟨σ96, hσ96, hf⟩ := x_bind hf
    refine x_lastore C dX12_readsLine_96 97 rfl hσ96 ?_
    exact x_vret C (hE _ (Option.some.inj hf).symm) dX12_readsLine_97
noncomputable def fX12_readsLine (σ : St) (x0 : Nat) : Option (St) :=
(isO σ x0 11).bind fun _ =>
(fX12_isWord σ x0 13).bind fun w3 =>
if w3 = 0 then
((isO σ x0 11).bind fun _ =>
(fX12_isWord σ x0 15).bind fun w19 =>
if w19 = 0 then
((isO σ x0 11).bind fun _ =>
(fX12_isWord σ x0 14).bind fun w37 =>
(isO σ x0 11).bind fun _ =>
(fX12_check σ x0 w37 1).bind fun w41 =>
if w41.1 = 0 then
(some w41.2)
else
((isO w41.2 x0 11).bind fun _ =>
(fX12_goes w41.2 x0).bind fun w48 =>
(isO w48 x0 11).bind fun _ =>
(fX12_side w48 x0 1 1).bind fun w54 =>
(isO w54.2 x0 11).bind fun _ =>
(fX12_fine w54.2 x0).bind fun w59 =>
if w59 = 0 then
(fJX12_readsLine_m_69 w54.2 x0 w54.1)
else
((isO w54.2 x0 11).bind fun _ =>
(fX12_goes w54.2 x0).bind fun w66 =>
fJX12_readsLine_m_69 w66 x0 w54.1)))
else
((isO σ x0 11).bind fun _ =>
(fX12_readsOrder σ x0).bind fun w26 =>
some w26))
else
((isO σ x0 11).bind fun _ =>
(fX12_readsRule σ x0).bind fun w10 =>
some w10)
set_option maxHeartbeats 4000000 in
set_option maxRecDepth 100000 in
theorem cX12_readsLinec {l : Launch} {adK adV : Nat → Nat} {G : xG} {A : Nat → Prop} {σ : St} {x0 : Nat} {c : St} (hf : fX12_readsLine σ x0 = some c) : ConS l yX12_readsLine (xws yX12_readsLine cX12_readsLine 4 none) rmX12_readsLine [.ref (x0)] adK adV G A σ none c := by
  refine s_start rfl (Nat.le_of_ble_eq_true rfl) (fun X _ _ _ C Ev hE0 => ?_)
  have hE : ∀ r, c = r → xE1 X none r := fun r e => e ▸ hE0
  show V X (0, 0) σ 0 [(0, .ref (x0))] []
  unfold fX12_readsLine at hf
  refine x_aload_n C dX12_readsLine_0 1 rfl 0 rfl rfl ?_
  refine x_ldcS C Ev dX12_readsLine_1 3 rfl (List.mem_of_getElem? (i := 16) rfl) ?_
  obtain ⟨o3, ho3, hf⟩ := x_bind hf
  obtain ⟨w3, hw3, hf⟩ := x_bind hf
  refine y_callV C Ev dX12_readsLine_3 6 rfl ho3 cl11.1 rfl (cX12_isWordc hw3) kX12_isWord kvX12_isWord w1673 ⟨rfl, rfl⟩ ⟨Nat.le_of_ble_eq_true rfl, Nat.le_of_ble_eq_true rfl⟩ ⟨Nat.zero_le _, Nat.zero_le _⟩ rfl rfl (Nat.le_of_ble_eq_true rfl) [.int (w3)] rfl ?_
  refine x_if_eq C dX12_readsLine_6 16 (by decide) 9 rfl (fun hc => ?_) (fun hc => ?_)
  · have hf := (if_pos hc).symm.trans hf
    refine x_aload_n C dX12_readsLine_16 17 rfl 0 rfl rfl ?_
    refine x_ldcS C Ev dX12_readsLine_17 19 rfl (List.mem_of_getElem? (i := 17) rfl) ?_
    obtain ⟨o19, ho19, hf⟩ := x_bind hf
    obtain ⟨w19, hw19, hf⟩ := x_bind hf
    refine y_callV C Ev dX12_readsLine_19 22 rfl ho19 cl11.1 rfl (cX12_isWordc hw19) kX12_isWord kvX12_isWord w1673 ⟨rfl, rfl⟩ ⟨Nat.le_of_ble_eq_true rfl, Nat.le_of_ble_eq_true rfl⟩ ⟨Nat.zero_le _, Nat.zero_le _⟩ rfl rfl (Nat.le_of_ble_eq_true rfl) [.int (w19)] rfl ?_
    refine x_if_eq C dX12_readsLine_22 32 (by decide) 25 rfl (fun hc => ?_) (fun hc => ?_)
    · have hf := (if_pos hc).symm.trans hf
      refine x_aload_n C dX12_readsLine_32 33 rfl 0 rfl rfl ?_
      refine x_aload_n C dX12_readsLine_33 34 rfl 0 rfl rfl ?_
      refine x_ldcSW C Ev dX12_readsLine_34 37 rfl (List.mem_of_getElem? (i := 18) rfl) ?_
      obtain ⟨o37, ho37, hf⟩ := x_bind hf
      obtain ⟨w37, hw37, hf⟩ := x_bind hf
      refine y_callV C Ev dX12_readsLine_37 40 rfl ho37 cl11.1 rfl (cX12_isWordc hw37) kX12_isWord kvX12_isWord w1673 ⟨rfl, rfl⟩ ⟨Nat.le_of_ble_eq_true rfl, Nat.le_of_ble_eq_true rfl⟩ ⟨Nat.zero_le _, Nat.zero_le _⟩ rfl rfl (Nat.le_of_ble_eq_true rfl) [.int (w37), .ref (x0)] rfl ?_
      refine x_iconst C dX12_readsLine_40 41 rfl 1 (by decide) ?_
      obtain ⟨o41, ho41, hf⟩ := x_bind hf
      obtain ⟨w41, hw41, hf⟩ := x_bind hf
      refine x_callVi C dX12_readsLine_41 44 rfl ho41 cl11.1 rfl (cX12_checkc hw41) kX12_check kvX12_check w1679 ⟨rfl, rfl⟩ ⟨Nat.le_of_ble_eq_true rfl, Nat.le_of_ble_eq_true rfl⟩ ⟨Nat.zero_le _, Nat.zero_le _⟩ rfl rfl (Nat.le_of_ble_eq_true rfl) ?_
      refine x_if_eq C dX12_readsLine_44 97 (by decide) 47 rfl (fun hc => ?_) (fun hc => ?_)
      · have hf := (if_pos hc).symm.trans hf
        exact x_vret C (hE _ (Option.some.inj hf).symm) dX12_readsLine_97
      · have hf := (if_neg hc).symm.trans hf
        refine x_aload_n C dX12_readsLine_47 48 rfl 0 rfl rfl ?_
        obtain ⟨o48, ho48, hf⟩ := x_bind hf
        obtain ⟨w48, hw48, hf⟩ := x_bind hf
        refine x_callVv C dX12_readsLine_48 51 rfl ho48 cl11.1 rfl (cX12_goesc hw48) kX12_goes kvX12_goes w1652 ⟨rfl, rfl⟩ ⟨Nat.le_of_ble_eq_true rfl, Nat.le_of_ble_eq_true rfl⟩ ⟨Nat.zero_le _, Nat.zero_le _⟩ rfl rfl (Nat.le_of_ble_eq_true rfl) ?_
        refine x_aload_n C dX12_readsLine_51 52 rfl 0 rfl rfl ?_
        refine x_iconst C dX12_readsLine_52 53 rfl 1 (by decide) ?_
        refine x_iconst C dX12_readsLine_53 54 rfl 1 (by decide) ?_
        obtain ⟨o54, ho54, hf⟩ := x_bind hf
        obtain ⟨w54, hw54, hf⟩ := x_bind hf
        refine x_callVl C dX12_readsLine_54 57 rfl ho54 cl11.1 rfl (cX12_sidec hw54) kX12_side kvX12_side w1705 ⟨rfl, rfl⟩ ⟨Nat.le_of_ble_eq_true rfl, Nat.le_of_ble_eq_true rfl⟩ ⟨Nat.zero_le _, Nat.zero_le _⟩ rfl rfl (Nat.le_of_ble_eq_true rfl) ?_
        refine x_lstore_n C dX12_readsLine_57 58 rfl rfl rfl [(1, .long (w54.1)), (0, .ref (x0))] rfl ?_
        refine x_aload_n C dX12_readsLine_58 59 rfl 1 rfl rfl ?_
        obtain ⟨o59, ho59, hf⟩ := x_bind hf
        obtain ⟨w59, hw59, hf⟩ := x_bind hf
        refine x_callVi C dX12_readsLine_59 62 rfl ho59 cl11.1 rfl (cX12_finec hw59) kX12_fine kvX12_fine w1683 ⟨rfl, rfl⟩ ⟨Nat.le_of_ble_eq_true rfl, Nat.le_of_ble_eq_true rfl⟩ ⟨Nat.zero_le _, Nat.zero_le _⟩ rfl rfl (Nat.le_of_ble_eq_true rfl) ?_
        refine x_if_eq C dX12_readsLine_62 69 (by decide) 65 rfl (fun hc => ?_) (fun hc => ?_)
        · have hf := (if_pos hc).symm.trans hf
          refine x_lv [1, 0] (lv' := [(0, .ref (x0)), (1, .long (w54.1))]) rfl ?_
          exact jnX12_readsLine_m_69 C Ev hf hE
        · have hf := (if_neg hc).symm.trans hf
          refine x_aload_n C dX12_readsLine_65 66 rfl 1 rfl rfl ?_
          obtain ⟨o66, ho66, hf⟩ := x_bind hf
          obtain ⟨w66, hw66, hf⟩ := x_bind hf
          refine x_callVv C dX12_readsLine_66 69 rfl ho66 cl11.1 rfl (cX12_goesc hw66) kX12_goes kvX12_goes w1652 ⟨rfl, rfl⟩ ⟨Nat.le_of_ble_eq_true rfl, Nat.le_of_ble_eq_true rfl⟩ ⟨Nat.zero_le _, Nat.zero_le _⟩ rfl rfl (Nat.le_of_ble_eq_true rfl) ?_
          refine x_lv [1, 0] (lv' := [(0, .ref (x0)), (1, .long (w54.1))]) rfl ?_
          exact jnX12_readsLine_m_69 C Ev hf hE
    · have hf := (if_neg hc).symm.trans hf
      refine x_aload_n C dX12_readsLine_25 26 rfl 0 rfl rfl ?_
      obtain ⟨o26, ho26, hf⟩ := x_bind hf
      obtain ⟨w26, hw26, hf⟩ := x_bind hf
      refine x_callVv C dX12_readsLine_26 29 rfl ho26 cl11.1 rfl (cX12_readsOrderc hw26) kX12_readsOrder kvX12_readsOrder w1718 ⟨rfl, rfl⟩ ⟨Nat.le_of_ble_eq_true rfl, Nat.le_of_ble_eq_true rfl⟩ ⟨Nat.zero_le _, Nat.zero_le _⟩ rfl rfl (Nat.le_of_ble_eq_true rfl) ?_
      refine x_goto C dX12_readsLine_29 97 (by decide) ?_
      exact x_vret C (hE _ (Option.some.inj hf).symm) dX12_readsLine_97
  · have hf := (if_neg hc).symm.trans hf
    refine x_aload_n C dX12_readsLine_9 10 rfl 0 rfl rfl ?_
    obtain ⟨o10, ho10, hf⟩ := x_bind hf
    obtain ⟨w10, hw10, hf⟩ := x_bind hf
    refine x_callVv C dX12_readsLine_10 13 rfl ho10 cl11.1 rfl (cX12_readsRulec hw10) kX12_readsRule kvX12_readsRule w1700 ⟨rfl, rfl⟩ ⟨Nat.le_of_ble_eq_true rfl, Nat.le_of_ble_eq_true rfl⟩ ⟨Nat.zero_le _, Nat.zero_le _⟩ rfl rfl (Nat.le_of_ble_eq_true rfl) ?_
    refine x_goto C dX12_readsLine_13 97 (by decide) ?_
    exact x_vret C (hE _ (Option.some.inj hf).symm) dX12_readsLine_97
theorem dX12_system_0 : decode cX12_system 0 = .ok (.aload_n 0, 1) := by decide +kernel
theorem dX12_system_1 : decode cX12_system 1 = .ok (.iconst 0, 1) := by decide +kernel
theorem dX12_system_2 : decode cX12_system 2 = .ok (.putfield 1, 3) := by decide +kernel
theorem dX12_system_5 : decode cX12_system 5 = .ok (.aload_n 0, 1) := by decide +kernel
theorem dX12_system_6 : decode cX12_system 6 = .ok (.iload_n 1, 1) := by decide +kernel
theorem dX12_system_7 : decode cX12_system 7 = .ok (.i2l, 1) := by decide +kernel
theorem dX12_system_8 : decode cX12_system 8 = .ok (.lconst 0, 1) := by decide +kernel
theorem dX12_system_9 : decode cX12_system 9 = .ok (.aload_n 0, 1) := by decide +kernel
theorem dX12_system_10 : decode cX12_system 10 = .ok (.getfield 168, 3) := by decide +kernel
theorem dX12_system_13 : decode cX12_system 13 = .ok (.i2l, 1) := by decide +kernel
theorem dX12_system_14 : decode cX12_system 14 = .ok (.invokestatic 130, 3) := by decide +kernel
theorem dX12_system_17 : decode cX12_system 17 = .ok (.iconst 1, 1) := by decide +kernel
theorem dX12_system_18 : decode cX12_system 18 = .ok (.invokevirtual 265, 3) := by decide +kernel
theorem dX12_system_21 : decode cX12_system 21 = .ok (.ifCond .ne 5, 3) := by decide +kernel
theorem dX12_system_24 : decode cX12_system 24 = .ok (.iconst 0, 1) := by decide +kernel
theorem dX12_system_25 : decode cX12_system 25 = .ok (.ireturn, 1) := by decide +kernel
theorem dX12_system_26 : decode cX12_system 26 = .ok (.aload_n 0, 1) := by decide +kernel
theorem dX12_system_27 : decode cX12_system 27 = .ok (.iload_n 1, 1) := by decide +kernel
theorem dX12_system_28 : decode cX12_system 28 = .ok (.putfield 175, 3) := by decide +kernel
theorem dX12_system_31 : decode cX12_system 31 = .ok (.aload_n 0, 1) := by decide +kernel
theorem dX12_system_32 : decode cX12_system 32 = .ok (.iconst 0, 1) := by decide +kernel
theorem dX12_system_33 : decode cX12_system 33 = .ok (.putfield 168, 3) := by decide +kernel
theorem dX12_system_36 : decode cX12_system 36 = .ok (.aload_n 0, 1) := by decide +kernel
theorem dX12_system_37 : decode cX12_system 37 = .ok (.iconst 0, 1) := by decide +kernel
theorem dX12_system_38 : decode cX12_system 38 = .ok (.putfield 186, 3) := by decide +kernel
theorem dX12_system_41 : decode cX12_system 41 = .ok (.aload_n 0, 1) := by decide +kernel
theorem dX12_system_42 : decode cX12_system 42 = .ok (.iconst 0, 1) := by decide +kernel
theorem dX12_system_43 : decode cX12_system 43 = .ok (.putfield 209, 3) := by decide +kernel
theorem dX12_system_46 : decode cX12_system 46 = .ok (.aload_n 0, 1) := by decide +kernel
theorem dX12_system_47 : decode cX12_system 47 = .ok (.iconst (-1), 1) := by decide +kernel
theorem dX12_system_48 : decode cX12_system 48 = .ok (.putfield 27, 3) := by decide +kernel
theorem dX12_system_51 : decode cX12_system 51 = .ok (.aload_n 0, 1) := by decide +kernel
theorem dX12_system_52 : decode cX12_system 52 = .ok (.getfield 30, 3) := by decide +kernel
theorem dX12_system_55 : decode cX12_system 55 = .ok (.iconst 0, 1) := by decide +kernel
theorem dX12_system_56 : decode cX12_system 56 = .ok (.invokestatic 109, 3) := by decide +kernel
theorem dX12_system_59 : decode cX12_system 59 = .ok (.aload_n 0, 1) := by decide +kernel
theorem dX12_system_60 : decode cX12_system 60 = .ok (.invokevirtual 229, 3) := by decide +kernel
theorem dX12_system_63 : decode cX12_system 63 = .ok (.aload_n 0, 1) := by decide +kernel
theorem dX12_system_64 : decode cX12_system 64 = .ok (.aload_n 0, 1) := by decide +kernel
theorem dX12_system_65 : decode cX12_system 65 = .ok (.ldc_w 268, 3) := by decide +kernel
theorem dX12_system_68 : decode cX12_system 68 = .ok (.invokevirtual 248, 3) := by decide +kernel
theorem dX12_system_71 : decode cX12_system 71 = .ok (.iconst 1, 1) := by decide +kernel
theorem dX12_system_72 : decode cX12_system 72 = .ok (.invokevirtual 225, 3) := by decide +kernel
theorem dX12_system_75 : decode cX12_system 75 = .ok (.ifCond .eq 26, 3) := by decide +kernel
theorem dX12_system_78 : decode cX12_system 78 = .ok (.aload_n 0, 1) := by decide +kernel
theorem dX12_system_79 : decode cX12_system 79 = .ok (.invokevirtual 229, 3) := by decide +kernel
theorem dX12_system_82 : decode cX12_system 82 = .ok (.aload_n 0, 1) := by decide +kernel
theorem dX12_system_83 : decode cX12_system 83 = .ok (.getfield 30, 3) := by decide +kernel
theorem dX12_system_86 : decode cX12_system 86 = .ok (.iconst 0, 1) := by decide +kernel
theorem dX12_system_87 : decode cX12_system 87 = .ok (.aload_n 0, 1) := by decide +kernel
theorem dX12_system_88 : decode cX12_system 88 = .ok (.iconst 1, 1) := by decide +kernel
theorem dX12_system_89 : decode cX12_system 89 = .ok (.iconst 5, 1) := by decide +kernel
theorem dX12_system_90 : decode cX12_system 90 = .ok (.invokevirtual 262, 3) := by decide +kernel
theorem dX12_system_93 : decode cX12_system 93 = .ok (.i2l, 1) := by decide +kernel
theorem dX12_system_94 : decode cX12_system 94 = .ok (.lastore, 1) := by decide +kernel
theorem dX12_system_95 : decode cX12_system 95 = .ok (.aload_n 0, 1) := by decide +kernel
theorem dX12_system_96 : decode cX12_system 96 = .ok (.bipush 59, 2) := by decide +kernel
theorem dX12_system_98 : decode cX12_system 98 = .ok (.invokevirtual 243, 3) := by decide +kernel
theorem dX12_system_101 : decode cX12_system 101 = .ok (.aload_n 0, 1) := by decide +kernel
theorem dX12_system_102 : decode cX12_system 102 = .ok (.invokevirtual 212, 3) := by decide +kernel
theorem dX12_system_105 : decode cX12_system 105 = .ok (.ifCond .eq 26, 3) := by decide +kernel
theorem dX12_system_108 : decode cX12_system 108 = .ok (.aload_n 0, 1) := by decide +kernel
theorem dX12_system_109 : decode cX12_system 109 = .ok (.getfield 195, 3) := by decide +kernel
theorem dX12_system_112 : decode cX12_system 112 = .ok (.sipush 1002, 3) := by decide +kernel
theorem dX12_system_115 : decode cX12_system 115 = .ok (.if_icmp .eq 16, 3) := by decide +kernel
theorem dX12_system_118 : decode cX12_system 118 = .ok (.aload_n 0, 1) := by decide +kernel
theorem dX12_system_119 : decode cX12_system 119 = .ok (.invokevirtual 270, 3) := by decide +kernel
theorem dX12_system_122 : decode cX12_system 122 = .ok (.aload_n 0, 1) := by decide +kernel
theorem dX12_system_123 : decode cX12_system 123 = .ok (.bipush 59, 2) := by decide +kernel
theorem dX12_system_125 : decode cX12_system 125 = .ok (.invokevirtual 243, 3) := by decide +kernel
theorem dX12_system_128 : decode cX12_system 128 = .ok (.goto (-27), 3) := by decide +kernel
theorem dX12_system_131 : decode cX12_system 131 = .ok (.aload_n 0, 1) := by decide +kernel
theorem dX12_system_132 : decode cX12_system 132 = .ok (.invokevirtual 212, 3) := by decide +kernel
theorem dX12_system_135 : decode cX12_system 135 = .ok (.ifCond .ne 11, 3) := by decide +kernel
theorem dX12_system_138 : decode cX12_system 138 = .ok (.bipush (-10), 2) := by decide +kernel
theorem dX12_system_140 : decode cX12_system 140 = .ok (.aload_n 0, 1) := by decide +kernel
theorem dX12_system_141 : decode cX12_system 141 = .ok (.getfield 209, 3) := by decide +kernel
theorem dX12_system_144 : decode cX12_system 144 = .ok (.isub, 1) := by decide +kernel
theorem dX12_system_145 : decode cX12_system 145 = .ok (.ireturn, 1) := by decide +kernel
theorem dX12_system_146 : decode cX12_system 146 = .ok (.aload_n 0, 1) := by decide +kernel
theorem dX12_system_147 : decode cX12_system 147 = .ok (.getfield 30, 3) := by decide +kernel
theorem dX12_system_150 : decode cX12_system 150 = .ok (.iconst 0, 1) := by decide +kernel
theorem dX12_system_151 : decode cX12_system 151 = .ok (.aload_n 0, 1) := by decide +kernel
theorem dX12_system_152 : decode cX12_system 152 = .ok (.getfield 13, 3) := by decide +kernel
theorem dX12_system_155 : decode cX12_system 155 = .ok (.iconst 0, 1) := by decide +kernel
theorem dX12_system_156 : decode cX12_system 156 = .ok (.invokestatic 116, 3) := by decide +kernel
theorem dX12_system_159 : decode cX12_system 159 = .ok (.aload_n 0, 1) := by decide +kernel
theorem dX12_system_160 : decode cX12_system 160 = .ok (.iconst 0, 1) := by decide +kernel
theorem dX12_system_161 : decode cX12_system 161 = .ok (.putfield 113, 3) := by decide +kernel
theorem dX12_system_164 : decode cX12_system 164 = .ok (.aload_n 0, 1) := by decide +kernel
theorem dX12_system_165 : decode cX12_system 165 = .ok (.invokevirtual 273, 3) := by decide +kernel
theorem dX12_system_168 : decode cX12_system 168 = .ok (.ireturn, 1) := by decide +kernel
abbrev rmX12_system : Room := { frames := 7, cells := 0, slots := 0, locals := 155 }
noncomputable def fLX12_system_101 (x0 : Nat) (a : St) : Option ((St) ⊕ (St)) :=
(isO a x0 11).bind fun _ =>
(fX12_fine a x0).bind fun w102 =>
if w102 = 0 then
(some (Sum.inr a))
else
((gI a x0 11 11).bind fun v109 =>
if v109 = ((1002 : Int32)) then
(some (Sum.inr a))
else
((isO a x0 11).bind fun _ =>
(fX12_readsLine a x0).bind fun w119 =>
(isO w119 x0 11).bind fun _ =>
(fX12_must w119 x0 59).bind fun w125 =>
some (Sum.inl w125)))
set_option maxHeartbeats 4000000 in
set_option maxRecDepth 100000 in
theorem lpX12_system_101 {X : xX} {x0 : Nat}  {a0 : St} {b : St} (C : Ok X cX12_system 2 RX12 rmX12_system (some .int)) {adK adV : Nat → Nat} (Ev : xEnv adK adV (xA X) (xs X)) (hb : iterP (fLX12_system_101 x0) a0 = some b) (hy0 : ∀ s, b = s → V X (0, 0) s 131 [(0, .ref (x0))] []) : V X (0, 0) a0 101 [(0, .ref (x0))] [] := by
  obtain ⟨n, hn⟩ := iterP_some hb
  refine x_loop (P := fun a => V X (0, 0) a 101 [(0, .ref (x0))] []) ?_ n a0 hn
  intro a c hf hK hxx
  have hx0 : ∀ s, c = Sum.inr s → V X (0, 0) s 131 [(0, .ref (x0))] [] := fun s e => hy0 s (hxx _ e).symm
  unfold fLX12_system_101 at hf
  refine x_aload_n C dX12_system_101 102 rfl 0 rfl rfl ?_
  obtain ⟨o102, ho102, hf⟩ := x_bind hf
  obtain ⟨w102, hw102, hf⟩ := x_bind hf
  refine x_callVi C dX12_system_102 105 rfl ho102 cl11.1 rfl (cX12_finec hw102) kX12_fine kvX12_fine w1683 ⟨rfl, rfl⟩ ⟨Nat.le_of_ble_eq_true rfl, Nat.le_of_ble_eq_true rfl⟩ ⟨Nat.zero_le _, Nat.zero_le _⟩ rfl rfl (Nat.le_of_ble_eq_true rfl) ?_
  refine x_if_eq C dX12_system_105 131 (by decide) 108 rfl (fun hc => ?_) (fun hc => ?_)
  · have hf := (if_pos hc).symm.trans hf
    exact hx0 _ (Option.some.inj hf).symm
  · have hf := (if_neg hc).symm.trans hf
    refine x_aload_n C dX12_system_108 109 rfl 0 rfl rfl ?_
    obtain ⟨v109, hv109, hf⟩ := x_bind hf
    refine x_getI C dX12_system_109 112 rfl hv109 cl11 rfl w1454 ?_
    refine x_sipush C dX12_system_112 115 rfl 1002 (by decide) ?_
    refine x_icmp_eq C dX12_system_115 131 (by decide) 118 rfl (fun hc => ?_) (fun hc => ?_)
    · have hf := (if_pos hc).symm.trans hf
      exact hx0 _ (Option.some.inj hf).symm
    · have hf := (if_neg hc).symm.trans hf
      refine x_aload_n C dX12_system_118 119 rfl 0 rfl rfl ?_
      obtain ⟨o119, ho119, hf⟩ := x_bind hf
      obtain ⟨w119, hw119, hf⟩ := x_bind hf
      refine y_callV C Ev dX12_system_119 122 rfl ho119 cl11.1 rfl (cX12_readsLinec hw119) kX12_readsLine kvX12_readsLine w1695 ⟨rfl, rfl⟩ ⟨Nat.le_of_ble_eq_true rfl, Nat.le_of_ble_eq_true rfl⟩ ⟨Nat.zero_le _, Nat.zero_le _⟩ rfl rfl (Nat.le_of_ble_eq_true rfl) [] rfl ?_
      refine x_aload_n C dX12_system_122 123 rfl 0 rfl rfl ?_
      refine x_bipush C dX12_system_123 125 rfl 59 (by decide) ?_
      obtain ⟨o125, ho125, hf⟩ := x_bind hf
      obtain ⟨w125, hw125, hf⟩ := x_bind hf
      refine x_callVv C dX12_system_125 128 rfl ho125 cl11.1 rfl (cX12_mustc hw125) kX12_must kvX12_must w1691 ⟨rfl, rfl⟩ ⟨Nat.le_of_ble_eq_true rfl, Nat.le_of_ble_eq_true rfl⟩ ⟨Nat.zero_le _, Nat.zero_le _⟩ rfl rfl (Nat.le_of_ble_eq_true rfl) ?_
      refine x_goto C dX12_system_128 101 (by decide) ?_
      exact hK _ (Option.some.inj hf).symm
noncomputable def fJX12_system_m_131 (σ : St) (x0 : Nat)  : Option ((Int32 × St)) :=
(isO σ x0 11).bind fun _ =>
(fX12_fine σ x0).bind fun w132 =>
if w132 = 0 then
((gI σ x0 11 13).bind fun v141 =>
some ((-10) - v141, σ))
else
((gR σ x0 11 15).bind fun v147 =>
(gR σ x0 11 1).bind fun v152 =>
(fX12_copies σ v147 0 v152 0).bind fun w156 =>
(wrF w156 x0 11 5 (.int (0))).bind fun σ161 =>
(isO σ161 x0 11).bind fun _ =>
(fX12_rules σ161 x0).bind fun w165 =>
some (w165, σ161))
set_option maxHeartbeats 4000000 in
set_option maxRecDepth 100000 in
theorem jnX12_system_m_131 {X : xX} {σ : St} {x0 : Nat}   {c : (Int32 × St)} (C : Ok X cX12_system 2 RX12 rmX12_system (some .int)) {adK adV : Nat → Nat} (Ev : xEnv adK adV (xA X) (xs X)) (hf : fJX12_system_m_131 σ x0  = some c) (hE : ∀ r, c = r → xE1 X (some (.int r.1)) r.2) : V X (0, 0) σ 131 [(0, .ref (x0))] [] := by
  unfold fJX12_system_m_131 at hf
  refine x_aload_n C dX12_system_131 132 rfl 0 rfl rfl ?_
  obtain ⟨o132, ho132, hf⟩ := x_bind hf
  obtain ⟨w132, hw132, hf⟩ := x_bind hf
  refine x_callVi C dX12_system_132 135 rfl ho132 cl11.1 rfl (cX12_finec hw132) kX12_fine kvX12_fine w1683 ⟨rfl, rfl⟩ ⟨Nat.le_of_ble_eq_true rfl, Nat.le_of_ble_eq_true rfl⟩ ⟨Nat.zero_le _, Nat.zero_le _⟩ rfl rfl (Nat.le_of_ble_eq_true rfl) ?_
  refine x_if_ne C dX12_system_135 146 (by decide) 138 rfl (fun hc => ?_) (fun hc => ?_)
  · have hf := (if_neg hc).symm.trans hf
    refine x_aload_n C dX12_system_146 147 rfl 0 rfl rfl ?_
    obtain ⟨v147, hv147, hf⟩ := x_bind hf
    refine x_getR C dX12_system_147 150 rfl hv147 cl11 rfl w1458 ?_
    refine x_iconst C dX12_system_150 151 rfl 0 (by decide) ?_
    refine x_aload_n C dX12_system_151 152 rfl 0 rfl rfl ?_
    obtain ⟨v152, hv152, hf⟩ := x_bind hf
    refine x_getR C dX12_system_152 155 rfl hv152 cl11 rfl w1444 ?_
    refine x_iconst C dX12_system_155 156 rfl 0 (by decide) ?_
    obtain ⟨w156, hw156, hf⟩ := x_bind hf
    refine x_callSv C dX12_system_156 159 rfl (cX12_copiesc hw156) kX12_copies ksX12_copies w1622 ⟨rfl, rfl⟩ ⟨Nat.le_of_ble_eq_true rfl, Nat.le_of_ble_eq_true rfl⟩ ⟨Nat.zero_le _, Nat.zero_le _⟩ rfl rfl (Nat.le_of_ble_eq_true rfl) ?_
    refine x_aload_n C dX12_system_159 160 rfl 0 rfl rfl ?_
    refine x_iconst C dX12_system_160 161 rfl 0 (by decide) ?_
    obtain ⟨σ161, hσ161, hf⟩ := x_bind hf
    refine x_putX C dX12_system_161 164 rfl hσ161 cl11 rfl w1448 rfl rfl rfl ?_
    refine x_aload_n C dX12_system_164 165 rfl 0 rfl rfl ?_
    obtain ⟨o165, ho165, hf⟩ := x_bind hf
    obtain ⟨w165, hw165, hf⟩ := x_bind hf
    refine x_callVi C dX12_system_165 168 rfl ho165 cl11.1 rfl (cX12_rulesc hw165) kX12_rules kvX12_rules w1735 ⟨rfl, rfl⟩ ⟨Nat.le_of_ble_eq_true rfl, Nat.le_of_ble_eq_true rfl⟩ ⟨Nat.zero_le _, Nat.zero_le _⟩ rfl rfl (Nat.le_of_ble_eq_true rfl) ?_
    exact x_iret C (hE _ (Option.some.inj hf).symm) dX12_system_168
  · have hf := (if_pos hc).symm.trans hf
    refine x_bipush C dX12_system_138 140 rfl (-10) (by decide) ?_
    refine x_aload_n C dX12_system_140 141 rfl 0 rfl rfl ?_
    obtain ⟨v141, hv141, hf⟩ := x_bind hf
    refine x_getI C dX12_system_141 144 rfl hv141 cl11 rfl w1456 ?_
    refine x_isub C dX12_system_144 145 rfl ?_
    have hE1 := hE _ (Option.some.inj hf).symm
    exact x_iret C hE1 dX12_system_145
noncomputable def fX12_system (σ : St) (x0 : Nat) (x1 : Int32) : Option ((Int32 × St)) :=
(wrF σ x0 11 0 (.int (0))).bind fun σ2 =>
(gI σ2 x0 11 7).bind fun v10 =>
(fX12_isIn x1.toInt64 0 v10.toInt64).bind fun w14 =>
(isO σ2 x0 11).bind fun _ =>
(fX12_right σ2 x0 w14 1).bind fun w18 =>
if w18.1 = 0 then
(some (0, w18.2))
else
((wrF w18.2 x0 11 8 (.int (x1))).bind fun σ28 =>
(wrF σ28 x0 11 7 (.int (0))).bind fun σ33 =>
(wrF σ33 x0 11 9 (.int (0))).bind fun σ38 =>
(wrF σ38 x0 11 13 (.int (0))).bind fun σ43 =>
(wrF σ43 x0 11 14 (.int ((-1)))).bind fun σ48 =>
(gR σ48 x0 11 15).bind fun v52 =>
(fX12_clears σ48 v52 0).bind fun w56 =>
(isO w56 x0 11).bind fun _ =>
(fX12_goes w56 x0).bind fun w60 =>
(isO w60 x0 11).bind fun _ =>
(fX12_isWord w60 x0 12).bind fun w68 =>
(isO w60 x0 11).bind fun _ =>
(fX12_check w60 x0 w68 1).bind fun w72 =>
if w72.1 = 0 then
((iterP (fLX12_system_101 x0) w72.2).bind fun b101 =>
fJX12_system_m_131 b101 x0)
else
((isO w72.2 x0 11).bind fun _ =>
(fX12_goes w72.2 x0).bind fun w79 =>
(gR w79 x0 11 15).bind fun v83 =>
(isO w79 x0 11).bind fun _ =>
(fX12_number w79 x0 1 5).bind fun w90 =>
(sL w90.2 v83 0 w90.1.toInt64).bind fun σ94 =>
(isO σ94 x0 11).bind fun _ =>
(fX12_must σ94 x0 59).bind fun w98 =>
(iterP (fLX12_system_101 x0) w98).bind fun b101 =>
fJX12_system_m_131 b101 x0))
set_option maxHeartbeats 4000000 in
set_option maxRecDepth 100000 in
theorem cX12_systemc {l : Launch} {adK adV : Nat → Nat} {G : xG} {A : Nat → Prop} {σ : St} {x0 : Nat} {x1 : Int32} {c : (Int32 × St)} (hf : fX12_system σ x0 x1 = some c) : ConS l yX12_system (xws yX12_system cX12_system 2 (some .int)) rmX12_system [.ref (x0), .int (x1)] adK adV G A σ (some (.int c.1)) c.2 := by
  refine s_start rfl (Nat.le_of_ble_eq_true rfl) (fun X _ _ _ C Ev hE0 => ?_)
  have hE : ∀ r, c = r → xE1 X (some (.int r.1)) r.2 := fun r e => e ▸ hE0
  show V X (0, 0) σ 0 [(0, .ref (x0)), (1, .int (x1))] []
  unfold fX12_system at hf
  refine x_aload_n C dX12_system_0 1 rfl 0 rfl rfl ?_
  refine x_iconst C dX12_system_1 2 rfl 0 (by decide) ?_
  obtain ⟨σ2, hσ2, hf⟩ := x_bind hf
  refine x_putX C dX12_system_2 5 rfl hσ2 cl11 rfl w1443 rfl rfl rfl ?_
  refine x_aload_n C dX12_system_5 6 rfl 0 rfl rfl ?_
  refine x_iload_n C dX12_system_6 7 rfl 1 rfl rfl ?_
  refine x_i2l C dX12_system_7 8 rfl ?_
  refine x_lconst C dX12_system_8 9 rfl 0 (by decide) ?_
  refine x_aload_n C dX12_system_9 10 rfl 0 rfl rfl ?_
  obtain ⟨v10, hv10, hf⟩ := x_bind hf
  refine x_getI C dX12_system_10 13 rfl hv10 cl11 rfl w1450 ?_
  refine x_i2l C dX12_system_13 14 rfl ?_
  obtain ⟨w14, hw14, hf⟩ := x_bind hf
  refine x_callSi C dX12_system_14 17 rfl (cX12_isInc hw14) kX12_isIn ksX12_isIn w1645 ⟨rfl, rfl⟩ ⟨Nat.le_of_ble_eq_true rfl, Nat.le_of_ble_eq_true rfl⟩ ⟨Nat.zero_le _, Nat.zero_le _⟩ rfl rfl (Nat.le_of_ble_eq_true rfl) ?_
  refine x_iconst C dX12_system_17 18 rfl 1 (by decide) ?_
  obtain ⟨o18, ho18, hf⟩ := x_bind hf
  obtain ⟨w18, hw18, hf⟩ := x_bind hf
  refine x_callVi C dX12_system_18 21 rfl ho18 cl11.1 rfl (cX12_rightc hw18) kX12_right kvX12_right w1648 ⟨rfl, rfl⟩ ⟨Nat.le_of_ble_eq_true rfl, Nat.le_of_ble_eq_true rfl⟩ ⟨Nat.zero_le _, Nat.zero_le _⟩ rfl rfl (Nat.le_of_ble_eq_true rfl) ?_
  refine x_if_ne C dX12_system_21 26 (by decide) 24 rfl (fun hc => ?_) (fun hc => ?_)
  · have hf := (if_neg hc).symm.trans hf
    refine x_aload_n C dX12_system_26 27 rfl 0 rfl rfl ?_
    refine x_iload_n C dX12_system_27 28 rfl 1 rfl rfl ?_
    obtain ⟨σ28, hσ28, hf⟩ := x_bind hf
    refine x_putX C dX12_system_28 31 rfl hσ28 cl11 rfl w1451 rfl rfl rfl ?_
    refine x_aload_n C dX12_system_31 32 rfl 0 rfl rfl ?_
    refine x_iconst C dX12_system_32 33 rfl 0 (by decide) ?_
    obtain ⟨σ33, hσ33, hf⟩ := x_bind hf
    refine x_putX C dX12_system_33 36 rfl hσ33 cl11 rfl w1450 rfl rfl rfl ?_
    refine x_aload_n C dX12_system_36 37 rfl 0 rfl rfl ?_
    refine x_iconst C dX12_system_37 38 rfl 0 (by decide) ?_
    obtain ⟨σ38, hσ38, hf⟩ := x_bind hf
    refine x_putX C dX12_system_38 41 rfl hσ38 cl11 rfl w1452 rfl rfl rfl ?_
    refine x_aload_n C dX12_system_41 42 rfl 0 rfl rfl ?_
    refine x_iconst C dX12_system_42 43 rfl 0 (by decide) ?_
    obtain ⟨σ43, hσ43, hf⟩ := x_bind hf
    refine x_putX C dX12_system_43 46 rfl hσ43 cl11 rfl w1456 rfl rfl rfl ?_
    refine x_aload_n C dX12_system_46 47 rfl 0 rfl rfl ?_
    refine x_iconst C dX12_system_47 48 rfl (-1) (by decide) ?_
    obtain ⟨σ48, hσ48, hf⟩ := x_bind hf
    refine x_putX C dX12_system_48 51 rfl hσ48 cl11 rfl w1457 rfl rfl rfl ?_
    refine x_aload_n C dX12_system_51 52 rfl 0 rfl rfl ?_
    obtain ⟨v52, hv52, hf⟩ := x_bind hf
    refine x_getR C dX12_system_52 55 rfl hv52 cl11 rfl w1458 ?_
    refine x_iconst C dX12_system_55 56 rfl 0 (by decide) ?_
    obtain ⟨w56, hw56, hf⟩ := x_bind hf
    refine x_callSv C dX12_system_56 59 rfl (cX12_clearsc hw56) kX12_clears ksX12_clears w1440 ⟨rfl, rfl⟩ ⟨Nat.le_of_ble_eq_true rfl, Nat.le_of_ble_eq_true rfl⟩ ⟨Nat.zero_le _, Nat.zero_le _⟩ rfl rfl (Nat.le_of_ble_eq_true rfl) ?_
    refine x_aload_n C dX12_system_59 60 rfl 0 rfl rfl ?_
    obtain ⟨o60, ho60, hf⟩ := x_bind hf
    obtain ⟨w60, hw60, hf⟩ := x_bind hf
    refine x_callVv C dX12_system_60 63 rfl ho60 cl11.1 rfl (cX12_goesc hw60) kX12_goes kvX12_goes w1652 ⟨rfl, rfl⟩ ⟨Nat.le_of_ble_eq_true rfl, Nat.le_of_ble_eq_true rfl⟩ ⟨Nat.zero_le _, Nat.zero_le _⟩ rfl rfl (Nat.le_of_ble_eq_true rfl) ?_
    refine x_aload_n C dX12_system_63 64 rfl 0 rfl rfl ?_
    refine x_aload_n C dX12_system_64 65 rfl 0 rfl rfl ?_
    refine x_ldcSW C Ev dX12_system_65 68 rfl (List.mem_of_getElem? (i := 19) rfl) ?_
    obtain ⟨o68, ho68, hf⟩ := x_bind hf
    obtain ⟨w68, hw68, hf⟩ := x_bind hf
    refine y_callV C Ev dX12_system_68 71 rfl ho68 cl11.1 rfl (cX12_isWordc hw68) kX12_isWord kvX12_isWord w1673 ⟨rfl, rfl⟩ ⟨Nat.le_of_ble_eq_true rfl, Nat.le_of_ble_eq_true rfl⟩ ⟨Nat.zero_le _, Nat.zero_le _⟩ rfl rfl (Nat.le_of_ble_eq_true rfl) [.int (w68), .ref (x0)] rfl ?_
    refine x_iconst C dX12_system_71 72 rfl 1 (by decide) ?_
    obtain ⟨o72, ho72, hf⟩ := x_bind hf
    obtain ⟨w72, hw72, hf⟩ := x_bind hf
    refine x_callVi C dX12_system_72 75 rfl ho72 cl11.1 rfl (cX12_checkc hw72) kX12_check kvX12_check w1679 ⟨rfl, rfl⟩ ⟨Nat.le_of_ble_eq_true rfl, Nat.le_of_ble_eq_true rfl⟩ ⟨Nat.zero_le _, Nat.zero_le _⟩ rfl rfl (Nat.le_of_ble_eq_true rfl) ?_
    refine x_if_eq C dX12_system_75 101 (by decide) 78 rfl (fun hc => ?_) (fun hc => ?_)
    · have hf := (if_pos hc).symm.trans hf
      obtain ⟨b101, hb101, hf⟩ := x_bind hf
      refine x_lv [0] (lv' := [(0, .ref (x0))]) rfl ?_
      refine lpX12_system_101 C Ev hb101 (fun s101 e101 => ?_)
      subst e101
      exact jnX12_system_m_131 C Ev hf hE
    · have hf := (if_neg hc).symm.trans hf
      refine x_aload_n C dX12_system_78 79 rfl 0 rfl rfl ?_
      obtain ⟨o79, ho79, hf⟩ := x_bind hf
      obtain ⟨w79, hw79, hf⟩ := x_bind hf
      refine x_callVv C dX12_system_79 82 rfl ho79 cl11.1 rfl (cX12_goesc hw79) kX12_goes kvX12_goes w1652 ⟨rfl, rfl⟩ ⟨Nat.le_of_ble_eq_true rfl, Nat.le_of_ble_eq_true rfl⟩ ⟨Nat.zero_le _, Nat.zero_le _⟩ rfl rfl (Nat.le_of_ble_eq_true rfl) ?_
      refine x_aload_n C dX12_system_82 83 rfl 0 rfl rfl ?_
      obtain ⟨v83, hv83, hf⟩ := x_bind hf
      refine x_getR C dX12_system_83 86 rfl hv83 cl11 rfl w1458 ?_
      refine x_iconst C dX12_system_86 87 rfl 0 (by decide) ?_
      refine x_aload_n C dX12_system_87 88 rfl 0 rfl rfl ?_
      refine x_iconst C dX12_system_88 89 rfl 1 (by decide) ?_
      refine x_iconst C dX12_system_89 90 rfl 5 (by decide) ?_
      obtain ⟨o90, ho90, hf⟩ := x_bind hf
      obtain ⟨w90, hw90, hf⟩ := x_bind hf
      refine x_callVi C dX12_system_90 93 rfl ho90 cl11.1 rfl (cX12_numberc hw90) kX12_number kvX12_number w1687 ⟨rfl, rfl⟩ ⟨Nat.le_of_ble_eq_true rfl, Nat.le_of_ble_eq_true rfl⟩ ⟨Nat.zero_le _, Nat.zero_le _⟩ rfl rfl (Nat.le_of_ble_eq_true rfl) ?_
      refine x_i2l C dX12_system_93 94 rfl ?_
      obtain ⟨σ94, hσ94, hf⟩ := x_bind hf
      refine x_lastore C dX12_system_94 95 rfl hσ94 ?_
      refine x_aload_n C dX12_system_95 96 rfl 0 rfl rfl ?_
      refine x_bipush C dX12_system_96 98 rfl 59 (by decide) ?_
      obtain ⟨o98, ho98, hf⟩ := x_bind hf
      obtain ⟨w98, hw98, hf⟩ := x_bind hf
      refine x_callVv C dX12_system_98 101 rfl ho98 cl11.1 rfl (cX12_mustc hw98) kX12_must kvX12_must w1691 ⟨rfl, rfl⟩ ⟨Nat.le_of_ble_eq_true rfl, Nat.le_of_ble_eq_true rfl⟩ ⟨Nat.zero_le _, Nat.zero_le _⟩ rfl rfl (Nat.le_of_ble_eq_true rfl) ?_
      obtain ⟨b101, hb101, hf⟩ := x_bind hf
      refine x_lv [0] (lv' := [(0, .ref (x0))]) rfl ?_
      refine lpX12_system_101 C Ev hb101 (fun s101 e101 => ?_)
      subst e101
      exact jnX12_system_m_131 C Ev hf hE
  · have hf := (if_pos hc).symm.trans hf
    refine x_iconst C dX12_system_24 25 rfl 0 (by decide) ?_
    exact x_iret C (hE _ (Option.some.inj hf).symm) dX12_system_25
theorem dX7_isRow_0 : decode cX7_isRow 0 = .ok (.aload_n 0, 1) := by decide +kernel
theorem dX7_isRow_1 : decode cX7_isRow 1 = .ok (.getfield 22, 3) := by decide +kernel
theorem dX7_isRow_4 : decode cX7_isRow 4 = .ok (.iconst 1, 1) := by decide +kernel
theorem dX7_isRow_5 : decode cX7_isRow 5 = .ok (.if_icmp .ne 19, 3) := by decide +kernel
theorem dX7_isRow_8 : decode cX7_isRow 8 = .ok (.aload_n 0, 1) := by decide +kernel
theorem dX7_isRow_9 : decode cX7_isRow 9 = .ok (.getfield 28, 3) := by decide +kernel
theorem dX7_isRow_12 : decode cX7_isRow 12 = .ok (.aload_n 0, 1) := by decide +kernel
theorem dX7_isRow_13 : decode cX7_isRow 13 = .ok (.getfield 25, 3) := by decide +kernel
theorem dX7_isRow_16 : decode cX7_isRow 16 = .ok (.isub, 1) := by decide +kernel
theorem dX7_isRow_17 : decode cX7_isRow 17 = .ok (.aload_n 1, 1) := by decide +kernel
theorem dX7_isRow_18 : decode cX7_isRow 18 = .ok (.invokevirtual 122, 3) := by decide +kernel
theorem dX7_isRow_21 : decode cX7_isRow 21 = .ok (.if_icmp .eq 5, 3) := by decide +kernel
theorem dX7_isRow_24 : decode cX7_isRow 24 = .ok (.iconst 0, 1) := by decide +kernel
theorem dX7_isRow_25 : decode cX7_isRow 25 = .ok (.ireturn, 1) := by decide +kernel
theorem dX7_isRow_26 : decode cX7_isRow 26 = .ok (.iconst 0, 1) := by decide +kernel
theorem dX7_isRow_27 : decode cX7_isRow 27 = .ok (.istore_n 2, 1) := by decide +kernel
theorem dX7_isRow_28 : decode cX7_isRow 28 = .ok (.iload_n 2, 1) := by decide +kernel
theorem dX7_isRow_29 : decode cX7_isRow 29 = .ok (.aload_n 1, 1) := by decide +kernel
theorem dX7_isRow_30 : decode cX7_isRow 30 = .ok (.invokevirtual 122, 3) := by decide +kernel
theorem dX7_isRow_33 : decode cX7_isRow 33 = .ok (.if_icmp .ge 30, 3) := by decide +kernel
theorem dX7_isRow_36 : decode cX7_isRow 36 = .ok (.aload_n 0, 1) := by decide +kernel
theorem dX7_isRow_37 : decode cX7_isRow 37 = .ok (.getfield 31, 3) := by decide +kernel
theorem dX7_isRow_40 : decode cX7_isRow 40 = .ok (.aload_n 0, 1) := by decide +kernel
theorem dX7_isRow_41 : decode cX7_isRow 41 = .ok (.getfield 25, 3) := by decide +kernel
theorem dX7_isRow_44 : decode cX7_isRow 44 = .ok (.iload_n 2, 1) := by decide +kernel
theorem dX7_isRow_45 : decode cX7_isRow 45 = .ok (.iadd, 1) := by decide +kernel
theorem dX7_isRow_46 : decode cX7_isRow 46 = .ok (.iaload, 1) := by decide +kernel
theorem dX7_isRow_47 : decode cX7_isRow 47 = .ok (.aload_n 1, 1) := by decide +kernel
theorem dX7_isRow_48 : decode cX7_isRow 48 = .ok (.iload_n 2, 1) := by decide +kernel
theorem dX7_isRow_49 : decode cX7_isRow 49 = .ok (.invokevirtual 126, 3) := by decide +kernel
theorem dX7_isRow_52 : decode cX7_isRow 52 = .ok (.if_icmp .eq 5, 3) := by decide +kernel
theorem dX7_isRow_55 : decode cX7_isRow 55 = .ok (.iconst 0, 1) := by decide +kernel
theorem dX7_isRow_56 : decode cX7_isRow 56 = .ok (.ireturn, 1) := by decide +kernel
theorem dX7_isRow_57 : decode cX7_isRow 57 = .ok (.iinc 2 1, 3) := by decide +kernel
theorem dX7_isRow_60 : decode cX7_isRow 60 = .ok (.goto (-32), 3) := by decide +kernel
theorem dX7_isRow_63 : decode cX7_isRow 63 = .ok (.iconst 1, 1) := by decide +kernel
theorem dX7_isRow_64 : decode cX7_isRow 64 = .ok (.ireturn, 1) := by decide +kernel
abbrev rmX7_isRow : Room := { frames := 5, cells := 0, slots := 0, locals := 110 }
noncomputable def fLX7_isRow_28 (σ : St) (x0 : Nat) (x1 : Nat) (a : Int32) : Option ((Int32) ⊕ ((Unit) ⊕ (Unit))) :=
(slen x1).bind fun w30 =>
if w30 ≤ a then
(some (Sum.inr (Sum.inr ())))
else
((gR σ x0 7 1).bind fun v37 =>
(gI σ x0 7 4).bind fun v41 =>
(aI σ v37 0 (v41 + a)).bind fun v46 =>
(sch x1 a).bind fun w49 =>
if v46 = w49 then
(xlet (a + 1) fun v57 =>
some (Sum.inl v57))
else
(some (Sum.inr (Sum.inl ()))))
set_option maxHeartbeats 4000000 in
set_option maxRecDepth 100000 in
theorem lpX7_isRow_28 {X : xX} {σ : St} {x0 : Nat} {x1 : Nat}  {a0 : Int32} {b : (Unit) ⊕ (Unit)} (C : Ok X cX7_isRow 3 RX7 rmX7_isRow (some .boolean)) {adK adV : Nat → Nat} (Ev : xEnv adK adV (xA X) (xs X)) (hb : iterP (fLX7_isRow_28 σ x0 x1) a0 = some b) (hy0 : ∀ s, b = (Sum.inl s) → V X (0, 0) σ 55 [] []) (hy1 : ∀ s, b = (Sum.inr s) → V X (0, 0) σ 63 [] []) : V X (0, 0) σ 28 [(0, .ref (x0)), (1, .ref (adK (x1))), (2, .int (a0))] [] := by
  obtain ⟨n, hn⟩ := iterP_some hb
  refine x_loop (P := fun a => V X (0, 0) σ 28 [(0, .ref (x0)), (1, .ref (adK (x1))), (2, .int (a))] []) ?_ n a0 hn
  intro a c hf hK hxx
  have hx0 : ∀ s, c = Sum.inr (Sum.inl s) → V X (0, 0) σ 55 [] [] := fun s e => hy0 s (hxx _ e).symm
  have hx1 : ∀ s, c = Sum.inr (Sum.inr s) → V X (0, 0) σ 63 [] [] := fun s e => hy1 s (hxx _ e).symm
  unfold fLX7_isRow_28 at hf
  refine x_iload_n C dX7_isRow_28 29 rfl 2 rfl rfl ?_
  refine x_aload_n C dX7_isRow_29 30 rfl 1 rfl rfl ?_
  obtain ⟨w30, hw30, hf⟩ := x_bind hf
  refine y_slen C Ev hw30 dX7_isRow_30 33 rfl w854 ⟨Nat.le_of_ble_eq_true rfl, Nat.le_of_ble_eq_true rfl⟩ (Nat.le_of_ble_eq_true rfl) ?_
  refine x_icmp_ge C dX7_isRow_33 63 (by decide) 36 rfl (fun hc => ?_) (fun hc => ?_)
  · have hf := (if_pos hc).symm.trans hf
    refine x_lv [] (lv' := []) rfl ?_
    exact hx1 _ (Option.some.inj hf).symm
  · have hf := (if_neg hc).symm.trans hf
    refine x_aload_n C dX7_isRow_36 37 rfl 0 rfl rfl ?_
    obtain ⟨v37, hv37, hf⟩ := x_bind hf
    refine x_getR C dX7_isRow_37 40 rfl hv37 cl7 rfl w287 ?_
    refine x_aload_n C dX7_isRow_40 41 rfl 0 rfl rfl ?_
    obtain ⟨v41, hv41, hf⟩ := x_bind hf
    refine x_getI C dX7_isRow_41 44 rfl hv41 cl7 rfl w290 ?_
    refine x_iload_n C dX7_isRow_44 45 rfl 2 rfl rfl ?_
    refine x_iadd C dX7_isRow_45 46 rfl ?_
    obtain ⟨v46, hv46, hf⟩ := x_bind hf
    refine x_iaload C dX7_isRow_46 47 rfl hv46 ?_
    refine x_aload_n C dX7_isRow_47 48 rfl 1 rfl rfl ?_
    refine x_iload_n C dX7_isRow_48 49 rfl 2 rfl rfl ?_
    obtain ⟨w49, hw49, hf⟩ := x_bind hf
    refine y_sch C Ev hw49 dX7_isRow_49 52 rfl w864 ⟨Nat.le_of_ble_eq_true rfl, Nat.le_of_ble_eq_true rfl⟩ (Nat.le_of_ble_eq_true rfl) ?_
    refine x_icmp_eq C dX7_isRow_52 57 (by decide) 55 rfl (fun hc => ?_) (fun hc => ?_)
    · have hf := (if_pos hc).symm.trans hf
      obtain ⟨v57, ev57, hf⟩ := xlet_some hf
      refine x_iinc C dX7_isRow_57 60 rfl 2 rfl v57 ev57 rfl [(2, .int (v57)), (0, .ref (x0)), (1, .ref (adK (x1)))] rfl ?_
      refine x_goto C dX7_isRow_60 28 (by decide) ?_
      refine x_lv [1, 2, 0] (lv' := [(0, .ref (x0)), (1, .ref (adK (x1))), (2, .int (v57))]) rfl ?_
      exact hK _ (Option.some.inj hf).symm
    · have hf := (if_neg hc).symm.trans hf
      refine x_lv [] (lv' := []) rfl ?_
      exact hx0 _ (Option.some.inj hf).symm
noncomputable def fX7_isRow (σ : St) (x0 : Nat) (x1 : Nat) : Option (Int32) :=
(gI σ x0 7 3).bind fun v1 =>
if v1 = ((1 : Int32)) then
((gI σ x0 7 5).bind fun v9 =>
(gI σ x0 7 4).bind fun v13 =>
(slen x1).bind fun w18 =>
if (v9 - v13) = w18 then
((iterP (fLX7_isRow_28 σ x0 x1) 0).bind fun b28 =>
(match b28 with
| .inl s28 =>
some 0
| .inr s28 =>
some 1))
else
(some 0))
else
(some 0)
set_option maxHeartbeats 4000000 in
set_option maxRecDepth 100000 in
theorem cX7_isRowc {l : Launch} {adK adV : Nat → Nat} {G : xG} {A : Nat → Prop} {σ : St} {x0 : Nat} {x1 : Nat} {c : Int32} (hf : fX7_isRow σ x0 x1 = some c) : ConS l yX7_isRow (xws yX7_isRow cX7_isRow 3 (some .boolean)) rmX7_isRow [.ref (x0), .ref (adK (x1))] adK adV G A σ (some (.int c)) σ := by
  refine s_start rfl (Nat.le_of_ble_eq_true rfl) (fun X _ _ _ C Ev hE0 => ?_)
  have hE : ∀ r, c = r → xE1 X (some (.int r)) σ := fun r e => e ▸ hE0
  show V X (0, 0) σ 0 [(0, .ref (x0)), (1, .ref (adK (x1)))] []
  unfold fX7_isRow at hf
  refine x_aload_n C dX7_isRow_0 1 rfl 0 rfl rfl ?_
  obtain ⟨v1, hv1, hf⟩ := x_bind hf
  refine x_getI C dX7_isRow_1 4 rfl hv1 cl7 rfl w289 ?_
  refine x_iconst C dX7_isRow_4 5 rfl 1 (by decide) ?_
  refine x_icmp_ne C dX7_isRow_5 24 (by decide) 8 rfl (fun hc => ?_) (fun hc => ?_)
  · have hf := (if_neg hc).symm.trans hf
    refine x_iconst C dX7_isRow_24 25 rfl 0 (by decide) ?_
    exact x_zret C rfl (hE _ (Option.some.inj hf).symm) dX7_isRow_25
  · have hf := (if_pos hc).symm.trans hf
    refine x_aload_n C dX7_isRow_8 9 rfl 0 rfl rfl ?_
    obtain ⟨v9, hv9, hf⟩ := x_bind hf
    refine x_getI C dX7_isRow_9 12 rfl hv9 cl7 rfl w292 ?_
    refine x_aload_n C dX7_isRow_12 13 rfl 0 rfl rfl ?_
    obtain ⟨v13, hv13, hf⟩ := x_bind hf
    refine x_getI C dX7_isRow_13 16 rfl hv13 cl7 rfl w290 ?_
    refine x_isub C dX7_isRow_16 17 rfl ?_
    refine x_aload_n C dX7_isRow_17 18 rfl 1 rfl rfl ?_
    obtain ⟨w18, hw18, hf⟩ := x_bind hf
    refine y_slen C Ev hw18 dX7_isRow_18 21 rfl w854 ⟨Nat.le_of_ble_eq_true rfl, Nat.le_of_ble_eq_true rfl⟩ (Nat.le_of_ble_eq_true rfl) ?_
    refine x_icmp_eq C dX7_isRow_21 26 (by decide) 24 rfl (fun hc => ?_) (fun hc => ?_)
    · have hf := (if_pos hc).symm.trans hf
      refine x_iconst C dX7_isRow_26 27 rfl 0 (by decide) ?_
      refine x_istore_n C dX7_isRow_27 28 rfl rfl rfl [(2, .int (0)), (0, .ref (x0)), (1, .ref (adK (x1)))] rfl ?_
      obtain ⟨b28, hb28, hf⟩ := x_bind hf
      refine x_lv [1, 2, 0] (lv' := [(0, .ref (x0)), (1, .ref (adK (x1))), (2, .int (0))]) rfl ?_
      refine lpX7_isRow_28 C Ev hb28 (fun s28 e28 => ?_) (fun s28 e28 => ?_)
      · subst e28
        try dsimp only at hf
        refine x_iconst C dX7_isRow_55 56 rfl 0 (by decide) ?_
        exact x_zret C rfl (hE _ (Option.some.inj hf).symm) dX7_isRow_56
      · subst e28
        try dsimp only at hf
        refine x_iconst C dX7_isRow_63 64 rfl 1 (by decide) ?_
        exact x_zret C rfl (hE _ (Option.some.inj hf).symm) dX7_isRow_64
    · have hf := (if_neg hc).symm.trans hf
      refine x_iconst C dX7_isRow_24 25 rfl 0 (by decide) ?_
      exact x_zret C rfl (hE _ (Option.some.inj hf).symm) dX7_isRow_25
theorem dX7_readLetters_0 : decode cX7_readLetters 0 = .ok (.aload_n 0, 1) := by decide +kernel
theorem dX7_readLetters_1 : decode cX7_readLetters 1 = .ok (.invokevirtual 43, 3) := by decide +kernel
theorem dX7_readLetters_4 : decode cX7_readLetters 4 = .ok (.aload_n 0, 1) := by decide +kernel
theorem dX7_readLetters_5 : decode cX7_readLetters 5 = .ok (.ldc 49, 2) := by decide +kernel
theorem dX7_readLetters_7 : decode cX7_readLetters 7 = .ok (.invokevirtual 51, 3) := by decide +kernel
theorem dX7_readLetters_10 : decode cX7_readLetters 10 = .ok (.ifCond .ne 5, 3) := by decide +kernel
theorem dX7_readLetters_13 : decode cX7_readLetters 13 = .ok (.iconst 1, 1) := by decide +kernel
theorem dX7_readLetters_14 : decode cX7_readLetters 14 = .ok (.ireturn, 1) := by decide +kernel
theorem dX7_readLetters_15 : decode cX7_readLetters 15 = .ok (.aload_n 0, 1) := by decide +kernel
theorem dX7_readLetters_16 : decode cX7_readLetters 16 = .ok (.invokevirtual 43, 3) := by decide +kernel
theorem dX7_readLetters_19 : decode cX7_readLetters 19 = .ok (.aload_n 0, 1) := by decide +kernel
theorem dX7_readLetters_20 : decode cX7_readLetters 20 = .ok (.iconst 5, 1) := by decide +kernel
theorem dX7_readLetters_21 : decode cX7_readLetters 21 = .ok (.invokevirtual 55, 3) := by decide +kernel
theorem dX7_readLetters_24 : decode cX7_readLetters 24 = .ok (.istore_n 1, 1) := by decide +kernel
theorem dX7_readLetters_25 : decode cX7_readLetters 25 = .ok (.iload_n 1, 1) := by decide +kernel
theorem dX7_readLetters_26 : decode cX7_readLetters 26 = .ok (.ifCond .eq 5, 3) := by decide +kernel
theorem dX7_readLetters_29 : decode cX7_readLetters 29 = .ok (.iload_n 1, 1) := by decide +kernel
theorem dX7_readLetters_30 : decode cX7_readLetters 30 = .ok (.ireturn, 1) := by decide +kernel
theorem dX7_readLetters_31 : decode cX7_readLetters 31 = .ok (.aload_n 0, 1) := by decide +kernel
theorem dX7_readLetters_32 : decode cX7_readLetters 32 = .ok (.getfield 12, 3) := by decide +kernel
theorem dX7_readLetters_35 : decode cX7_readLetters 35 = .ok (.aload_n 0, 1) := by decide +kernel
theorem dX7_readLetters_36 : decode cX7_readLetters 36 = .ok (.invokevirtual 59, 3) := by decide +kernel
theorem dX7_readLetters_39 : decode cX7_readLetters 39 = .ok (.invokevirtual 62, 3) := by decide +kernel
theorem dX7_readLetters_42 : decode cX7_readLetters 42 = .ok (.aload_n 0, 1) := by decide +kernel
theorem dX7_readLetters_43 : decode cX7_readLetters 43 = .ok (.invokevirtual 43, 3) := by decide +kernel
theorem dX7_readLetters_46 : decode cX7_readLetters 46 = .ok (.iconst 0, 1) := by decide +kernel
theorem dX7_readLetters_47 : decode cX7_readLetters 47 = .ok (.ireturn, 1) := by decide +kernel
abbrev rmX7_readLetters : Room := { frames := 6, cells := 0, slots := 0, locals := 132 }
noncomputable def fX7_readLetters (σ : St) (x0 : Nat) : Option ((Int32 × St)) :=
(isO σ x0 7).bind fun _ =>
(fX7_next σ x0).bind fun w1 =>
(isO w1 x0 7).bind fun _ =>
(fX7_isRow w1 x0 12).bind fun w7 =>
if w7 = 0 then
(some (1, w1))
else
((isO w1 x0 7).bind fun _ =>
(fX7_next w1 x0).bind fun w16 =>
(isO w16 x0 7).bind fun _ =>
(fX7_numberFault w16 x0 5).bind fun w21 =>
if w21 = 0 then
((gR w16 x0 7 0).bind fun v32 =>
(isO w16 x0 7).bind fun _ =>
(fX7_number w16 x0).bind fun w36 =>
(isO w16 v32 8).bind fun _ =>
(fX8_startAnew w16 v32 w36).bind fun w39 =>
(isO w39 x0 7).bind fun _ =>
(fX7_next w39 x0).bind fun w43 =>
some (0, w43))
else
(some (w21, w16)))
set_option maxHeartbeats 4000000 in
set_option maxRecDepth 100000 in
theorem cX7_readLettersc {l : Launch} {adK adV : Nat → Nat} {G : xG} {A : Nat → Prop} {σ : St} {x0 : Nat} {c : (Int32 × St)} (hf : fX7_readLetters σ x0 = some c) : ConS l yX7_readLetters (xws yX7_readLetters cX7_readLetters 2 (some .int)) rmX7_readLetters [.ref (x0)] adK adV G A σ (some (.int c.1)) c.2 := by
  refine s_start rfl (Nat.le_of_ble_eq_true rfl) (fun X _ _ _ C Ev hE0 => ?_)
  have hE : ∀ r, c = r → xE1 X (some (.int r.1)) r.2 := fun r e => e ▸ hE0
  show V X (0, 0) σ 0 [(0, .ref (x0))] []
  unfold fX7_readLetters at hf
  refine x_aload_n C dX7_readLetters_0 1 rfl 0 rfl rfl ?_
  obtain ⟨o1, ho1, hf⟩ := x_bind hf
  obtain ⟨w1, hw1, hf⟩ := x_bind hf
  refine x_callVv C dX7_readLetters_1 4 rfl ho1 cl7.1 rfl (cX7_nextc hw1) kX7_next kvX7_next w841 ⟨rfl, rfl⟩ ⟨Nat.le_of_ble_eq_true rfl, Nat.le_of_ble_eq_true rfl⟩ ⟨Nat.zero_le _, Nat.zero_le _⟩ rfl rfl (Nat.le_of_ble_eq_true rfl) ?_
  refine x_aload_n C dX7_readLetters_4 5 rfl 0 rfl rfl ?_
  refine x_ldcS C Ev dX7_readLetters_5 7 rfl (List.mem_of_getElem? (i := 12) rfl) ?_
  obtain ⟨o7, ho7, hf⟩ := x_bind hf
  obtain ⟨w7, hw7, hf⟩ := x_bind hf
  refine y_callV C Ev dX7_readLetters_7 10 rfl ho7 cl7.1 rfl (cX7_isRowc hw7) kX7_isRow kvX7_isRow w850 ⟨rfl, rfl⟩ ⟨Nat.le_of_ble_eq_true rfl, Nat.le_of_ble_eq_true rfl⟩ ⟨Nat.zero_le _, Nat.zero_le _⟩ rfl rfl (Nat.le_of_ble_eq_true rfl) [.int (w7)] rfl ?_
  refine x_if_ne C dX7_readLetters_10 15 (by decide) 13 rfl (fun hc => ?_) (fun hc => ?_)
  · have hf := (if_neg hc).symm.trans hf
    refine x_aload_n C dX7_readLetters_15 16 rfl 0 rfl rfl ?_
    obtain ⟨o16, ho16, hf⟩ := x_bind hf
    obtain ⟨w16, hw16, hf⟩ := x_bind hf
    refine x_callVv C dX7_readLetters_16 19 rfl ho16 cl7.1 rfl (cX7_nextc hw16) kX7_next kvX7_next w841 ⟨rfl, rfl⟩ ⟨Nat.le_of_ble_eq_true rfl, Nat.le_of_ble_eq_true rfl⟩ ⟨Nat.zero_le _, Nat.zero_le _⟩ rfl rfl (Nat.le_of_ble_eq_true rfl) ?_
    refine x_aload_n C dX7_readLetters_19 20 rfl 0 rfl rfl ?_
    refine x_iconst C dX7_readLetters_20 21 rfl 5 (by decide) ?_
    obtain ⟨o21, ho21, hf⟩ := x_bind hf
    obtain ⟨w21, hw21, hf⟩ := x_bind hf
    refine x_callVi C dX7_readLetters_21 24 rfl ho21 cl7.1 rfl (cX7_numberFaultc hw21) kX7_numberFault kvX7_numberFault w902 ⟨rfl, rfl⟩ ⟨Nat.le_of_ble_eq_true rfl, Nat.le_of_ble_eq_true rfl⟩ ⟨Nat.zero_le _, Nat.zero_le _⟩ rfl rfl (Nat.le_of_ble_eq_true rfl) ?_
    refine x_istore_n C dX7_readLetters_24 25 rfl rfl rfl [(1, .int (w21)), (0, .ref (x0))] rfl ?_
    refine x_iload_n C dX7_readLetters_25 26 rfl 0 rfl rfl ?_
    refine x_if_eq C dX7_readLetters_26 31 (by decide) 29 rfl (fun hc => ?_) (fun hc => ?_)
    · have hf := (if_pos hc).symm.trans hf
      refine x_aload_n C dX7_readLetters_31 32 rfl 1 rfl rfl ?_
      obtain ⟨v32, hv32, hf⟩ := x_bind hf
      refine x_getR C dX7_readLetters_32 35 rfl hv32 cl7 rfl w285 ?_
      refine x_aload_n C dX7_readLetters_35 36 rfl 1 rfl rfl ?_
      obtain ⟨o36, ho36, hf⟩ := x_bind hf
      obtain ⟨w36, hw36, hf⟩ := x_bind hf
      refine x_callVi C dX7_readLetters_36 39 rfl ho36 cl7.1 rfl (cX7_numberc hw36) kX7_number kvX7_number w906 ⟨rfl, rfl⟩ ⟨Nat.le_of_ble_eq_true rfl, Nat.le_of_ble_eq_true rfl⟩ ⟨Nat.zero_le _, Nat.zero_le _⟩ rfl rfl (Nat.le_of_ble_eq_true rfl) ?_
      obtain ⟨o39, ho39, hf⟩ := x_bind hf
      obtain ⟨w39, hw39, hf⟩ := x_bind hf
      refine x_callVv C dX7_readLetters_39 42 rfl ho39 cl8.1 rfl (cX8_startAnewc hw39) kX8_startAnew kvX8_startAnew w910 ⟨rfl, rfl⟩ ⟨Nat.le_of_ble_eq_true rfl, Nat.le_of_ble_eq_true rfl⟩ ⟨Nat.zero_le _, Nat.zero_le _⟩ rfl rfl (Nat.le_of_ble_eq_true rfl) ?_
      refine x_aload_n C dX7_readLetters_42 43 rfl 1 rfl rfl ?_
      obtain ⟨o43, ho43, hf⟩ := x_bind hf
      obtain ⟨w43, hw43, hf⟩ := x_bind hf
      refine x_callVv C dX7_readLetters_43 46 rfl ho43 cl7.1 rfl (cX7_nextc hw43) kX7_next kvX7_next w841 ⟨rfl, rfl⟩ ⟨Nat.le_of_ble_eq_true rfl, Nat.le_of_ble_eq_true rfl⟩ ⟨Nat.zero_le _, Nat.zero_le _⟩ rfl rfl (Nat.le_of_ble_eq_true rfl) ?_
      refine x_iconst C dX7_readLetters_46 47 rfl 0 (by decide) ?_
      exact x_iret C (hE _ (Option.some.inj hf).symm) dX7_readLetters_47
    · have hf := (if_neg hc).symm.trans hf
      refine x_iload_n C dX7_readLetters_29 30 rfl 0 rfl rfl ?_
      exact x_iret C (hE _ (Option.some.inj hf).symm) dX7_readLetters_30
  · have hf := (if_pos hc).symm.trans hf
    refine x_iconst C dX7_readLetters_13 14 rfl 1 (by decide) ?_
    exact x_iret C (hE _ (Option.some.inj hf).symm) dX7_readLetters_14
theorem dX7_readLine_0 : decode cX7_readLine 0 = .ok (.aload_n 0, 1) := by decide +kernel
theorem dX7_readLine_1 : decode cX7_readLine 1 = .ok (.ldc 66, 2) := by decide +kernel
theorem dX7_readLine_3 : decode cX7_readLine 3 = .ok (.invokevirtual 51, 3) := by decide +kernel
theorem dX7_readLine_6 : decode cX7_readLine 6 = .ok (.ifCond .eq 8, 3) := by decide +kernel
theorem dX7_readLine_9 : decode cX7_readLine 9 = .ok (.aload_n 0, 1) := by decide +kernel
theorem dX7_readLine_10 : decode cX7_readLine 10 = .ok (.invokevirtual 68, 3) := by decide +kernel
theorem dX7_readLine_13 : decode cX7_readLine 13 = .ok (.ireturn, 1) := by decide +kernel
theorem dX7_readLine_14 : decode cX7_readLine 14 = .ok (.aload_n 0, 1) := by decide +kernel
theorem dX7_readLine_15 : decode cX7_readLine 15 = .ok (.ldc 71, 2) := by decide +kernel
theorem dX7_readLine_17 : decode cX7_readLine 17 = .ok (.invokevirtual 51, 3) := by decide +kernel
theorem dX7_readLine_20 : decode cX7_readLine 20 = .ok (.ifCond .eq 8, 3) := by decide +kernel
theorem dX7_readLine_23 : decode cX7_readLine 23 = .ok (.aload_n 0, 1) := by decide +kernel
theorem dX7_readLine_24 : decode cX7_readLine 24 = .ok (.invokevirtual 73, 3) := by decide +kernel
theorem dX7_readLine_27 : decode cX7_readLine 27 = .ok (.ireturn, 1) := by decide +kernel
theorem dX7_readLine_28 : decode cX7_readLine 28 = .ok (.aload_n 0, 1) := by decide +kernel
theorem dX7_readLine_29 : decode cX7_readLine 29 = .ok (.ldc 76, 2) := by decide +kernel
theorem dX7_readLine_31 : decode cX7_readLine 31 = .ok (.invokevirtual 51, 3) := by decide +kernel
theorem dX7_readLine_34 : decode cX7_readLine 34 = .ok (.ifCond .eq 10, 3) := by decide +kernel
theorem dX7_readLine_37 : decode cX7_readLine 37 = .ok (.aload_n 0, 1) := by decide +kernel
theorem dX7_readLine_38 : decode cX7_readLine 38 = .ok (.invokevirtual 78, 3) := by decide +kernel
theorem dX7_readLine_41 : decode cX7_readLine 41 = .ok (.goto 4, 3) := by decide +kernel
theorem dX7_readLine_44 : decode cX7_readLine 44 = .ok (.iconst 1, 1) := by decide +kernel
theorem dX7_readLine_45 : decode cX7_readLine 45 = .ok (.ireturn, 1) := by decide +kernel
abbrev rmX7_readLine : Room := { frames := 6, cells := 0, slots := 0, locals := 132 }
noncomputable def fX7_readLine (σ : St) (x0 : Nat) : Option ((Int32 × St)) :=
(isO σ x0 7).bind fun _ =>
(fX7_isRow σ x0 13).bind fun w3 =>
if w3 = 0 then
((isO σ x0 7).bind fun _ =>
(fX7_isRow σ x0 14).bind fun w17 =>
if w17 = 0 then
((isO σ x0 7).bind fun _ =>
(fX7_isRow σ x0 15).bind fun w31 =>
if w31 = 0 then
(some (1, σ))
else
((isO σ x0 7).bind fun _ =>
(fX7_readOrder σ x0).bind fun w38 =>
some (w38.1, w38.2)))
else
((isO σ x0 7).bind fun _ =>
(fX7_readWeigh σ x0).bind fun w24 =>
some (w24.1, w24.2)))
else
((isO σ x0 7).bind fun _ =>
(fX7_readRule σ x0).bind fun w10 =>
some (w10.1, w10.2))
set_option maxHeartbeats 4000000 in
set_option maxRecDepth 100000 in
theorem cX7_readLinec {l : Launch} {adK adV : Nat → Nat} {G : xG} {A : Nat → Prop} {σ : St} {x0 : Nat} {c : (Int32 × St)} (hf : fX7_readLine σ x0 = some c) : ConS l yX7_readLine (xws yX7_readLine cX7_readLine 1 (some .int)) rmX7_readLine [.ref (x0)] adK adV G A σ (some (.int c.1)) c.2 := by
  refine s_start rfl (Nat.le_of_ble_eq_true rfl) (fun X _ _ _ C Ev hE0 => ?_)
  have hE : ∀ r, c = r → xE1 X (some (.int r.1)) r.2 := fun r e => e ▸ hE0
  show V X (0, 0) σ 0 [(0, .ref (x0))] []
  unfold fX7_readLine at hf
  refine x_aload_n C dX7_readLine_0 1 rfl 0 rfl rfl ?_
  refine x_ldcS C Ev dX7_readLine_1 3 rfl (List.mem_of_getElem? (i := 13) rfl) ?_
  obtain ⟨o3, ho3, hf⟩ := x_bind hf
  obtain ⟨w3, hw3, hf⟩ := x_bind hf
  refine y_callV C Ev dX7_readLine_3 6 rfl ho3 cl7.1 rfl (cX7_isRowc hw3) kX7_isRow kvX7_isRow w850 ⟨rfl, rfl⟩ ⟨Nat.le_of_ble_eq_true rfl, Nat.le_of_ble_eq_true rfl⟩ ⟨Nat.zero_le _, Nat.zero_le _⟩ rfl rfl (Nat.le_of_ble_eq_true rfl) [.int (w3)] rfl ?_
  refine x_if_eq C dX7_readLine_6 14 (by decide) 9 rfl (fun hc => ?_) (fun hc => ?_)
  · have hf := (if_pos hc).symm.trans hf
    refine x_aload_n C dX7_readLine_14 15 rfl 0 rfl rfl ?_
    refine x_ldcS C Ev dX7_readLine_15 17 rfl (List.mem_of_getElem? (i := 14) rfl) ?_
    obtain ⟨o17, ho17, hf⟩ := x_bind hf
    obtain ⟨w17, hw17, hf⟩ := x_bind hf
    refine y_callV C Ev dX7_readLine_17 20 rfl ho17 cl7.1 rfl (cX7_isRowc hw17) kX7_isRow kvX7_isRow w850 ⟨rfl, rfl⟩ ⟨Nat.le_of_ble_eq_true rfl, Nat.le_of_ble_eq_true rfl⟩ ⟨Nat.zero_le _, Nat.zero_le _⟩ rfl rfl (Nat.le_of_ble_eq_true rfl) [.int (w17)] rfl ?_
    refine x_if_eq C dX7_readLine_20 28 (by decide) 23 rfl (fun hc => ?_) (fun hc => ?_)
    · have hf := (if_pos hc).symm.trans hf
      refine x_aload_n C dX7_readLine_28 29 rfl 0 rfl rfl ?_
      refine x_ldcS C Ev dX7_readLine_29 31 rfl (List.mem_of_getElem? (i := 15) rfl) ?_
      obtain ⟨o31, ho31, hf⟩ := x_bind hf
      obtain ⟨w31, hw31, hf⟩ := x_bind hf
      refine y_callV C Ev dX7_readLine_31 34 rfl ho31 cl7.1 rfl (cX7_isRowc hw31) kX7_isRow kvX7_isRow w850 ⟨rfl, rfl⟩ ⟨Nat.le_of_ble_eq_true rfl, Nat.le_of_ble_eq_true rfl⟩ ⟨Nat.zero_le _, Nat.zero_le _⟩ rfl rfl (Nat.le_of_ble_eq_true rfl) [.int (w31)] rfl ?_
      refine x_if_eq C dX7_readLine_34 44 (by decide) 37 rfl (fun hc => ?_) (fun hc => ?_)
      · have hf := (if_pos hc).symm.trans hf
        refine x_iconst C dX7_readLine_44 45 rfl 1 (by decide) ?_
        exact x_iret C (hE _ (Option.some.inj hf).symm) dX7_readLine_45
      · have hf := (if_neg hc).symm.trans hf
        refine x_aload_n C dX7_readLine_37 38 rfl 0 rfl rfl ?_
        obtain ⟨o38, ho38, hf⟩ := x_bind hf
        obtain ⟨w38, hw38, hf⟩ := x_bind hf
        refine x_callVi C dX7_readLine_38 41 rfl ho38 cl7.1 rfl (cX7_readOrderc hw38) kX7_readOrder kvX7_readOrder w950 ⟨rfl, rfl⟩ ⟨Nat.le_of_ble_eq_true rfl, Nat.le_of_ble_eq_true rfl⟩ ⟨Nat.zero_le _, Nat.zero_le _⟩ rfl rfl (Nat.le_of_ble_eq_true rfl) ?_
        refine x_goto C dX7_readLine_41 45 (by decide) ?_
        exact x_iret C (hE _ (Option.some.inj hf).symm) dX7_readLine_45
    · have hf := (if_neg hc).symm.trans hf
      refine x_aload_n C dX7_readLine_23 24 rfl 0 rfl rfl ?_
      obtain ⟨o24, ho24, hf⟩ := x_bind hf
      obtain ⟨w24, hw24, hf⟩ := x_bind hf
      refine x_callVi C dX7_readLine_24 27 rfl ho24 cl7.1 rfl (cX7_readWeighc hw24) kX7_readWeigh kvX7_readWeigh w945 ⟨rfl, rfl⟩ ⟨Nat.le_of_ble_eq_true rfl, Nat.le_of_ble_eq_true rfl⟩ ⟨Nat.zero_le _, Nat.zero_le _⟩ rfl rfl (Nat.le_of_ble_eq_true rfl) ?_
      exact x_iret C (hE _ (Option.some.inj hf).symm) dX7_readLine_27
  · have hf := (if_neg hc).symm.trans hf
    refine x_aload_n C dX7_readLine_9 10 rfl 0 rfl rfl ?_
    obtain ⟨o10, ho10, hf⟩ := x_bind hf
    obtain ⟨w10, hw10, hf⟩ := x_bind hf
    refine x_callVi C dX7_readLine_10 13 rfl ho10 cl7.1 rfl (cX7_readRulec hw10) kX7_readRule kvX7_readRule w920 ⟨rfl, rfl⟩ ⟨Nat.le_of_ble_eq_true rfl, Nat.le_of_ble_eq_true rfl⟩ ⟨Nat.zero_le _, Nat.zero_le _⟩ rfl rfl (Nat.le_of_ble_eq_true rfl) ?_
    exact x_iret C (hE _ (Option.some.inj hf).symm) dX7_readLine_13
theorem dX7_readText_0 : decode cX7_readText 0 = .ok (.aload_n 0, 1) := by decide +kernel
theorem dX7_readText_1 : decode cX7_readText 1 = .ok (.iload_n 1, 1) := by decide +kernel
theorem dX7_readText_2 : decode cX7_readText 2 = .ok (.putfield 18, 3) := by decide +kernel
theorem dX7_readText_5 : decode cX7_readText 5 = .ok (.aload_n 0, 1) := by decide +kernel
theorem dX7_readText_6 : decode cX7_readText 6 = .ok (.iconst 0, 1) := by decide +kernel
theorem dX7_readText_7 : decode cX7_readText 7 = .ok (.putfield 28, 3) := by decide +kernel
theorem dX7_readText_10 : decode cX7_readText 10 = .ok (.aload_n 0, 1) := by decide +kernel
theorem dX7_readText_11 : decode cX7_readText 11 = .ok (.invokevirtual 35, 3) := by decide +kernel
theorem dX7_readText_14 : decode cX7_readText 14 = .ok (.istore_n 2, 1) := by decide +kernel
theorem dX7_readText_15 : decode cX7_readText 15 = .ok (.iconst 0, 1) := by decide +kernel
theorem dX7_readText_16 : decode cX7_readText 16 = .ok (.istore_n 3, 1) := by decide +kernel
theorem dX7_readText_17 : decode cX7_readText 17 = .ok (.iload_n 3, 1) := by decide +kernel
theorem dX7_readText_18 : decode cX7_readText 18 = .ok (.sipush 300, 3) := by decide +kernel
theorem dX7_readText_21 : decode cX7_readText 21 = .ok (.if_icmp .gt 42, 3) := by decide +kernel
theorem dX7_readText_24 : decode cX7_readText 24 = .ok (.iload_n 2, 1) := by decide +kernel
theorem dX7_readText_25 : decode cX7_readText 25 = .ok (.ifCond .ne 38, 3) := by decide +kernel
theorem dX7_readText_28 : decode cX7_readText 28 = .ok (.aload_n 0, 1) := by decide +kernel
theorem dX7_readText_29 : decode cX7_readText 29 = .ok (.bipush 59, 2) := by decide +kernel
theorem dX7_readText_31 : decode cX7_readText 31 = .ok (.invokevirtual 39, 3) := by decide +kernel
theorem dX7_readText_34 : decode cX7_readText 34 = .ok (.ifCond .ne 5, 3) := by decide +kernel
theorem dX7_readText_37 : decode cX7_readText 37 = .ok (.iconst 1, 1) := by decide +kernel
theorem dX7_readText_38 : decode cX7_readText 38 = .ok (.ireturn, 1) := by decide +kernel
theorem dX7_readText_39 : decode cX7_readText 39 = .ok (.aload_n 0, 1) := by decide +kernel
theorem dX7_readText_40 : decode cX7_readText 40 = .ok (.invokevirtual 43, 3) := by decide +kernel
theorem dX7_readText_43 : decode cX7_readText 43 = .ok (.aload_n 0, 1) := by decide +kernel
theorem dX7_readText_44 : decode cX7_readText 44 = .ok (.getfield 22, 3) := by decide +kernel
theorem dX7_readText_47 : decode cX7_readText 47 = .ok (.ifCond .ne 5, 3) := by decide +kernel
theorem dX7_readText_50 : decode cX7_readText 50 = .ok (.iconst 0, 1) := by decide +kernel
theorem dX7_readText_51 : decode cX7_readText 51 = .ok (.ireturn, 1) := by decide +kernel
theorem dX7_readText_52 : decode cX7_readText 52 = .ok (.aload_n 0, 1) := by decide +kernel
theorem dX7_readText_53 : decode cX7_readText 53 = .ok (.invokevirtual 46, 3) := by decide +kernel
theorem dX7_readText_56 : decode cX7_readText 56 = .ok (.istore_n 2, 1) := by decide +kernel
theorem dX7_readText_57 : decode cX7_readText 57 = .ok (.iinc 3 1, 3) := by decide +kernel
theorem dX7_readText_60 : decode cX7_readText 60 = .ok (.goto (-43), 3) := by decide +kernel
theorem dX7_readText_63 : decode cX7_readText 63 = .ok (.iload_n 2, 1) := by decide +kernel
theorem dX7_readText_64 : decode cX7_readText 64 = .ok (.ireturn, 1) := by decide +kernel
abbrev rmX7_readText : Room := { frames := 7, cells := 0, slots := 0, locals := 153 }
noncomputable def fLX7_readText_17 (x0 : Nat) (a : Int32 × Int32 × St) : Option ((Int32 × Int32 × St) ⊕ ((St) ⊕ (St) ⊕ (Int32 × St))) :=
if ((300 : Int32)) < a.2.1 then
(some (Sum.inr (Sum.inr (Sum.inr (a.1, a.2.2)))))
else
(if a.1 = 0 then
((isO a.2.2 x0 7).bind fun _ =>
(fX7_isSign a.2.2 x0 59).bind fun w31 =>
if w31 = 0 then
(some (Sum.inr (Sum.inl a.2.2)))
else
((isO a.2.2 x0 7).bind fun _ =>
(fX7_next a.2.2 x0).bind fun w40 =>
(gI w40 x0 7 3).bind fun v44 =>
if v44 = 0 then
(some (Sum.inr (Sum.inr (Sum.inl w40))))
else
((isO w40 x0 7).bind fun _ =>
(fX7_readLine w40 x0).bind fun w53 =>
xlet (a.2.1 + 1) fun v57 =>
some (Sum.inl (w53.1, v57, w53.2)))))
else
(some (Sum.inr (Sum.inr (Sum.inr (a.1, a.2.2))))))
set_option maxHeartbeats 4000000 in
set_option maxRecDepth 100000 in
theorem lpX7_readText_17 {X : xX} {x0 : Nat}  {a0 : Int32 × Int32 × St} {b : (St) ⊕ (St) ⊕ (Int32 × St)} (C : Ok X cX7_readText 4 RX7 rmX7_readText (some .int)) {adK adV : Nat → Nat} (Ev : xEnv adK adV (xA X) (xs X)) (hb : iterP (fLX7_readText_17 x0) a0 = some b) (hy0 : ∀ s, b = (Sum.inl s) → V X (0, 0) s 37 [] []) (hy1 : ∀ s, b = (Sum.inr (Sum.inl s)) → V X (0, 0) s 50 [] []) (hy2 : ∀ s, b = (Sum.inr (Sum.inr s)) → V X (0, 0) s.2 63 [(2, .int (s.1))] []) : V X (0, 0) a0.2.2 17 [(0, .ref (x0)), (2, .int (a0.1)), (3, .int (a0.2.1))] [] := by
  obtain ⟨n, hn⟩ := iterP_some hb
  refine x_loop (P := fun a => V X (0, 0) a.2.2 17 [(0, .ref (x0)), (2, .int (a.1)), (3, .int (a.2.1))] []) ?_ n a0 hn
  intro a c hf hK hxx
  have hx0 : ∀ s, c = Sum.inr (Sum.inl s) → V X (0, 0) s 37 [] [] := fun s e => hy0 s (hxx _ e).symm
  have hx1 : ∀ s, c = Sum.inr (Sum.inr (Sum.inl s)) → V X (0, 0) s 50 [] [] := fun s e => hy1 s (hxx _ e).symm
  have hx2 : ∀ s, c = Sum.inr (Sum.inr (Sum.inr s)) → V X (0, 0) s.2 63 [(2, .int (s.1))] [] := fun s e => hy2 s (hxx _ e).symm
  unfold fLX7_readText_17 at hf
  refine x_iload_n C dX7_readText_17 18 rfl 2 rfl rfl ?_
  refine x_sipush C dX7_readText_18 21 rfl 300 (by decide) ?_
  refine x_icmp_gt C dX7_readText_21 63 (by decide) 24 rfl (fun hc => ?_) (fun hc => ?_)
  · have hf := (if_pos hc).symm.trans hf
    refine x_lv [1] (lv' := [(2, .int (a.1))]) rfl ?_
    exact hx2 _ (Option.some.inj hf).symm
  · have hf := (if_neg hc).symm.trans hf
    refine x_iload_n C dX7_readText_24 25 rfl 1 rfl rfl ?_
    refine x_if_ne C dX7_readText_25 63 (by decide) 28 rfl (fun hc => ?_) (fun hc => ?_)
    · have hf := (if_neg hc).symm.trans hf
      refine x_lv [1] (lv' := [(2, .int (a.1))]) rfl ?_
      exact hx2 _ (Option.some.inj hf).symm
    · have hf := (if_pos hc).symm.trans hf
      refine x_aload_n C dX7_readText_28 29 rfl 0 rfl rfl ?_
      refine x_bipush C dX7_readText_29 31 rfl 59 (by decide) ?_
      obtain ⟨o31, ho31, hf⟩ := x_bind hf
      obtain ⟨w31, hw31, hf⟩ := x_bind hf
      refine x_callVi C dX7_readText_31 34 rfl ho31 cl7.1 rfl (cX7_isSignc hw31) kX7_isSign kvX7_isSign w911 ⟨rfl, rfl⟩ ⟨Nat.le_of_ble_eq_true rfl, Nat.le_of_ble_eq_true rfl⟩ ⟨Nat.zero_le _, Nat.zero_le _⟩ rfl rfl (Nat.le_of_ble_eq_true rfl) ?_
      refine x_if_ne C dX7_readText_34 39 (by decide) 37 rfl (fun hc => ?_) (fun hc => ?_)
      · have hf := (if_neg hc).symm.trans hf
        refine x_aload_n C dX7_readText_39 40 rfl 0 rfl rfl ?_
        obtain ⟨o40, ho40, hf⟩ := x_bind hf
        obtain ⟨w40, hw40, hf⟩ := x_bind hf
        refine x_callVv C dX7_readText_40 43 rfl ho40 cl7.1 rfl (cX7_nextc hw40) kX7_next kvX7_next w841 ⟨rfl, rfl⟩ ⟨Nat.le_of_ble_eq_true rfl, Nat.le_of_ble_eq_true rfl⟩ ⟨Nat.zero_le _, Nat.zero_le _⟩ rfl rfl (Nat.le_of_ble_eq_true rfl) ?_
        refine x_aload_n C dX7_readText_43 44 rfl 0 rfl rfl ?_
        obtain ⟨v44, hv44, hf⟩ := x_bind hf
        refine x_getI C dX7_readText_44 47 rfl hv44 cl7 rfl w289 ?_
        refine x_if_ne C dX7_readText_47 52 (by decide) 50 rfl (fun hc => ?_) (fun hc => ?_)
        · have hf := (if_neg hc).symm.trans hf
          refine x_aload_n C dX7_readText_52 53 rfl 0 rfl rfl ?_
          obtain ⟨o53, ho53, hf⟩ := x_bind hf
          obtain ⟨w53, hw53, hf⟩ := x_bind hf
          refine y_callV C Ev dX7_readText_53 56 rfl ho53 cl7.1 rfl (cX7_readLinec hw53) kX7_readLine kvX7_readLine w915 ⟨rfl, rfl⟩ ⟨Nat.le_of_ble_eq_true rfl, Nat.le_of_ble_eq_true rfl⟩ ⟨Nat.zero_le _, Nat.zero_le _⟩ rfl rfl (Nat.le_of_ble_eq_true rfl) [.int (w53.1)] rfl ?_
          refine x_istore_n C dX7_readText_56 57 rfl rfl rfl [(2, .int (w53.1)), (0, .ref (x0)), (3, .int (a.2.1))] rfl ?_
          obtain ⟨v57, ev57, hf⟩ := xlet_some hf
          refine x_iinc C dX7_readText_57 60 rfl 2 rfl v57 ev57 rfl [(3, .int (v57)), (2, .int (w53.1)), (0, .ref (x0))] rfl ?_
          refine x_goto C dX7_readText_60 17 (by decide) ?_
          refine x_lv [2, 1, 0] (lv' := [(0, .ref (x0)), (2, .int (w53.1)), (3, .int (v57))]) rfl ?_
          exact hK _ (Option.some.inj hf).symm
        · have hf := (if_pos hc).symm.trans hf
          refine x_lv [] (lv' := []) rfl ?_
          exact hx1 _ (Option.some.inj hf).symm
      · have hf := (if_pos hc).symm.trans hf
        refine x_lv [] (lv' := []) rfl ?_
        exact hx0 _ (Option.some.inj hf).symm
noncomputable def fX7_readText (σ : St) (x0 : Nat) (x1 : Int32) : Option ((Int32 × St)) :=
(wrF σ x0 7 2 (.int (x1))).bind fun σ2 =>
(wrF σ2 x0 7 5 (.int (0))).bind fun σ7 =>
(isO σ7 x0 7).bind fun _ =>
(fX7_readLetters σ7 x0).bind fun w11 =>
(iterP (fLX7_readText_17 x0) (w11.1, 0, w11.2)).bind fun b17 =>
(match b17 with
| .inl s17 =>
some (1, s17)
| .inr (.inl s17) =>
some (0, s17)
| .inr (.inr s17) =>
some (s17.1, s17.2))
set_option maxHeartbeats 4000000 in
set_option maxRecDepth 100000 in
theorem cX7_readTextc {l : Launch} {adK adV : Nat → Nat} {G : xG} {A : Nat → Prop} {σ : St} {x0 : Nat} {x1 : Int32} {c : (Int32 × St)} (hf : fX7_readText σ x0 x1 = some c) : ConS l yX7_readText (xws yX7_readText cX7_readText 4 (some .int)) rmX7_readText [.ref (x0), .int (x1)] adK adV G A σ (some (.int c.1)) c.2 := by
  refine s_start rfl (Nat.le_of_ble_eq_true rfl) (fun X _ _ _ C Ev hE0 => ?_)
  have hE : ∀ r, c = r → xE1 X (some (.int r.1)) r.2 := fun r e => e ▸ hE0
  show V X (0, 0) σ 0 [(0, .ref (x0)), (1, .int (x1))] []
  unfold fX7_readText at hf
  refine x_aload_n C dX7_readText_0 1 rfl 0 rfl rfl ?_
  refine x_iload_n C dX7_readText_1 2 rfl 1 rfl rfl ?_
  obtain ⟨σ2, hσ2, hf⟩ := x_bind hf
  refine x_putX C dX7_readText_2 5 rfl hσ2 cl7 rfl w288 rfl rfl rfl ?_
  refine x_aload_n C dX7_readText_5 6 rfl 0 rfl rfl ?_
  refine x_iconst C dX7_readText_6 7 rfl 0 (by decide) ?_
  obtain ⟨σ7, hσ7, hf⟩ := x_bind hf
  refine x_putX C dX7_readText_7 10 rfl hσ7 cl7 rfl w292 rfl rfl rfl ?_
  refine x_aload_n C dX7_readText_10 11 rfl 0 rfl rfl ?_
  obtain ⟨o11, ho11, hf⟩ := x_bind hf
  obtain ⟨w11, hw11, hf⟩ := x_bind hf
  refine y_callV C Ev dX7_readText_11 14 rfl ho11 cl7.1 rfl (cX7_readLettersc hw11) kX7_readLetters kvX7_readLetters w837 ⟨rfl, rfl⟩ ⟨Nat.le_of_ble_eq_true rfl, Nat.le_of_ble_eq_true rfl⟩ ⟨Nat.zero_le _, Nat.zero_le _⟩ rfl rfl (Nat.le_of_ble_eq_true rfl) [.int (w11.1)] rfl ?_
  refine x_istore_n C dX7_readText_14 15 rfl rfl rfl [(2, .int (w11.1)), (0, .ref (x0)), (1, .int (x1))] rfl ?_
  refine x_iconst C dX7_readText_15 16 rfl 0 (by decide) ?_
  refine x_istore_n C dX7_readText_16 17 rfl rfl rfl [(3, .int (0)), (2, .int (w11.1)), (0, .ref (x0)), (1, .int (x1))] rfl ?_
  obtain ⟨b17, hb17, hf⟩ := x_bind hf
  refine x_lv [2, 1, 0] (lv' := [(0, .ref (x0)), (2, .int (w11.1)), (3, .int (0))]) rfl ?_
  refine lpX7_readText_17 C Ev hb17 (fun s17 e17 => ?_) (fun s17 e17 => ?_) (fun s17 e17 => ?_)
  · subst e17
    try dsimp only at hf
    refine x_iconst C dX7_readText_37 38 rfl 1 (by decide) ?_
    exact x_iret C (hE _ (Option.some.inj hf).symm) dX7_readText_38
  · subst e17
    try dsimp only at hf
    refine x_iconst C dX7_readText_50 51 rfl 0 (by decide) ?_
    exact x_iret C (hE _ (Option.some.inj hf).symm) dX7_readText_51
  · subst e17
    try dsimp only at hf
    refine x_iload_n C dX7_readText_63 64 rfl 0 rfl rfl ?_
    exact x_iret C (hE _ (Option.some.inj hf).symm) dX7_readText_64
theorem dX11_system_0 : decode cX11_system 0 = .ok (.aload_n 0, 1) := by decide +kernel
theorem dX11_system_1 : decode cX11_system 1 = .ok (.iload_n 1, 1) := by decide +kernel
theorem dX11_system_2 : decode cX11_system 2 = .ok (.invokevirtual 126, 3) := by decide +kernel
theorem dX11_system_5 : decode cX11_system 5 = .ok (.aload_n 0, 1) := by decide +kernel
theorem dX11_system_6 : decode cX11_system 6 = .ok (.iconst 0, 1) := by decide +kernel
theorem dX11_system_7 : decode cX11_system 7 = .ok (.putfield 13, 3) := by decide +kernel
theorem dX11_system_10 : decode cX11_system 10 = .ok (.aload_n 0, 1) := by decide +kernel
theorem dX11_system_11 : decode cX11_system 11 = .ok (.getfield 46, 3) := by decide +kernel
theorem dX11_system_14 : decode cX11_system 14 = .ok (.iload_n 1, 1) := by decide +kernel
theorem dX11_system_15 : decode cX11_system 15 = .ok (.invokevirtual 129, 3) := by decide +kernel
theorem dX11_system_18 : decode cX11_system 18 = .ok (.istore_n 2, 1) := by decide +kernel
theorem dX11_system_19 : decode cX11_system 19 = .ok (.iload_n 2, 1) := by decide +kernel
theorem dX11_system_20 : decode cX11_system 20 = .ok (.ifCond .eq 19, 3) := by decide +kernel
theorem dX11_system_23 : decode cX11_system 23 = .ok (.aload_n 0, 1) := by decide +kernel
theorem dX11_system_24 : decode cX11_system 24 = .ok (.aload_n 0, 1) := by decide +kernel
theorem dX11_system_25 : decode cX11_system 25 = .ok (.getfield 46, 3) := by decide +kernel
theorem dX11_system_28 : decode cX11_system 28 = .ok (.getfield 133, 3) := by decide +kernel
theorem dX11_system_31 : decode cX11_system 31 = .ok (.putfield 17, 3) := by decide +kernel
theorem dX11_system_34 : decode cX11_system 34 = .ok (.bipush (-10), 2) := by decide +kernel
theorem dX11_system_36 : decode cX11_system 36 = .ok (.iload_n 2, 1) := by decide +kernel
theorem dX11_system_37 : decode cX11_system 37 = .ok (.isub, 1) := by decide +kernel
theorem dX11_system_38 : decode cX11_system 38 = .ok (.ireturn, 1) := by decide +kernel
theorem dX11_system_39 : decode cX11_system 39 = .ok (.aload_n 0, 1) := by decide +kernel
theorem dX11_system_40 : decode cX11_system 40 = .ok (.iconst (-1), 1) := by decide +kernel
theorem dX11_system_41 : decode cX11_system 41 = .ok (.putfield 17, 3) := by decide +kernel
theorem dX11_system_44 : decode cX11_system 44 = .ok (.aload_n 0, 1) := by decide +kernel
theorem dX11_system_45 : decode cX11_system 45 = .ok (.getfield 23, 3) := by decide +kernel
theorem dX11_system_48 : decode cX11_system 48 = .ok (.getfield 52, 3) := by decide +kernel
theorem dX11_system_51 : decode cX11_system 51 = .ok (.aload_n 0, 1) := by decide +kernel
theorem dX11_system_52 : decode cX11_system 52 = .ok (.getfield 46, 3) := by decide +kernel
theorem dX11_system_55 : decode cX11_system 55 = .ok (.getfield 136, 3) := by decide +kernel
theorem dX11_system_58 : decode cX11_system 58 = .ok (.invokevirtual 137, 3) := by decide +kernel
theorem dX11_system_61 : decode cX11_system 61 = .ok (.aload_n 0, 1) := by decide +kernel
theorem dX11_system_62 : decode cX11_system 62 = .ok (.getfield 23, 3) := by decide +kernel
theorem dX11_system_65 : decode cX11_system 65 = .ok (.invokevirtual 142, 3) := by decide +kernel
theorem dX11_system_68 : decode cX11_system 68 = .ok (.aload_n 0, 1) := by decide +kernel
theorem dX11_system_69 : decode cX11_system 69 = .ok (.getfield 37, 3) := by decide +kernel
theorem dX11_system_72 : decode cX11_system 72 = .ok (.invokevirtual 145, 3) := by decide +kernel
theorem dX11_system_75 : decode cX11_system 75 = .ok (.aload_n 0, 1) := by decide +kernel
theorem dX11_system_76 : decode cX11_system 76 = .ok (.getfield 23, 3) := by decide +kernel
theorem dX11_system_79 : decode cX11_system 79 = .ok (.getfield 52, 3) := by decide +kernel
theorem dX11_system_82 : decode cX11_system 82 = .ok (.getfield 148, 3) := by decide +kernel
theorem dX11_system_85 : decode cX11_system 85 = .ok (.ireturn, 1) := by decide +kernel
abbrev rmX11_system : Room := { frames := 8, cells := 1, slots := 6, locals := 176 }
noncomputable def fX11_system (σ : St) (x0 : Nat) (x1 : Int32) : Option ((Int32 ⊕ String) × St) :=
(isO σ x0 10).bind fun _ =>
(fX11_needBytes σ x0 x1).bind fun w2 =>
(match w2 with
| (Sum.inl _, σ2) =>
(wrF σ2 x0 10 1 (.int (0))).bind fun σ7 =>
(gR σ7 x0 10 7).bind fun v11 =>
(isO σ7 v11 7).bind fun _ =>
(fX7_readText σ7 v11 x1).bind fun w15 =>
if w15.1 = 0 then
((wrF w15.2 x0 10 2 (.int ((-1)))).bind fun σ41 =>
(gR σ41 x0 10 3).bind fun v45 =>
(gR σ41 v45 2 0).bind fun v48 =>
(gR σ41 x0 10 7).bind fun v52 =>
(gR σ41 v52 7 0).bind fun v55 =>
(isO σ41 v48 8).bind fun _ =>
(fX8_copyFrom σ41 v48 v55).bind fun w58 =>
(gR w58 x0 10 3).bind fun v62 =>
(isO w58 v62 2).bind fun _ =>
(fX2_emptyPlaces w58 v62).bind fun w65 =>
(gR w65 x0 10 6).bind fun v69 =>
(isO w65 v69 0).bind fun _ =>
(fX0_forget w65 v69).bind fun w72 =>
(gR w72 x0 10 3).bind fun v76 =>
(gR w72 v76 2 0).bind fun v79 =>
(gI w72 v79 8 1).bind fun v82 =>
some (Sum.inl v82, w72))
else
((gR w15.2 x0 10 7).bind fun v25 =>
(gI w15.2 v25 7 4).bind fun v28 =>
(wrF w15.2 x0 10 2 (.int (v28))).bind fun σ31 =>
some (Sum.inl ((-10) - w15.1), σ31))
| (Sum.inr E2, σ2) =>
some (Sum.inr E2, σ2))
set_option maxHeartbeats 4000000 in
set_option maxRecDepth 100000 in
theorem cX11_systemc {l : Launch} (hst : l.stackTraces = false) {adK adV : Nat → Nat} {G : xG} {A : Nat → Prop} {σ : St} {x0 : Nat} {x1 : Int32} {c : (Int32 ⊕ String) × St} (hf : fX11_system σ x0 x1 = some c) : ConX l yX11_system (xws yX11_system cX11_system 3 (some .int)) rmX11_system 1 6 [.ref (x0), .int (x1)] adK adV G A σ (xoI c.1) c.2 := by
  refine z_start hst rfl (Nat.le_of_ble_eq_true rfl) (fun X _ _ _ C O hE0 => ?_)
  have hE : ∀ r, c = r → zE X 1 6 (xoI r.1) r.2 := fun r e => e ▸ hE0
  show Vz X (0, 0) σ 0 [(0, .ref (x0)), (1, .int (x1))] []
  unfold fX11_system at hf
  refine z_aload_n C dX11_system_0 1 rfl 0 rfl rfl ?_
  refine z_iload_n C dX11_system_1 2 rfl 1 rfl rfl ?_
  obtain ⟨o2, ho2, hf⟩ := x_bind hf
  obtain ⟨⟨r2, σ2⟩, hw2, hf⟩ := x_bind hf
  cases r2 with
  | inl _ =>
    dsimp only at hf
    refine z_cVn C O.2.2 dX11_system_2 5 rfl ho2 cl10.1 rfl (cX11_needBytesc O.1 hw2) kX11_needBytes kvX11_needBytes w763 ⟨rfl, rfl⟩ ⟨Nat.le_of_ble_eq_true rfl, Nat.le_of_ble_eq_true rfl⟩ ⟨Nat.le_of_ble_eq_true rfl, Nat.le_of_ble_eq_true rfl⟩ rfl rfl (Nat.le_of_ble_eq_true rfl) (1, 6) rfl ?_
    refine z_aload_n C dX11_system_5 6 rfl 0 rfl rfl ?_
    refine z_iconst C dX11_system_6 7 rfl 0 (by decide) ?_
    obtain ⟨σ7, hσ7, hf⟩ := x_bind hf
    refine z_putX C dX11_system_7 10 rfl hσ7 cl10 rfl w516 rfl rfl rfl ?_
    refine z_aload_n C dX11_system_10 11 rfl 0 rfl rfl ?_
    obtain ⟨v11, hv11, hf⟩ := x_bind hf
    refine z_getR C dX11_system_11 14 rfl hv11 cl10 rfl w522 ?_
    refine z_iload_n C dX11_system_14 15 rfl 1 rfl rfl ?_
    obtain ⟨o15, ho15, hf⟩ := x_bind hf
    obtain ⟨w15, hw15, hf⟩ := x_bind hf
    refine zy_callV C O.2.2 dX11_system_15 18 rfl ho15 cl7.1 rfl (cX7_readTextc hw15) kX7_readText kvX7_readText w833 ⟨rfl, rfl⟩ ⟨Nat.le_of_ble_eq_true rfl, Nat.le_of_ble_eq_true rfl⟩ ⟨Nat.le_of_ble_eq_true rfl, Nat.le_of_ble_eq_true rfl⟩ rfl rfl (Nat.le_of_ble_eq_true rfl) [.int (w15.1)] rfl ?_
    refine z_istore_n C dX11_system_18 19 rfl rfl rfl [(2, .int (w15.1)), (0, .ref (x0)), (1, .int (x1))] rfl ?_
    refine z_iload_n C dX11_system_19 20 rfl 0 rfl rfl ?_
    refine z_if_eq C dX11_system_20 39 (by decide) 23 rfl (fun hc => ?_) (fun hc => ?_)
    · have hf := (if_pos hc).symm.trans hf
      refine z_aload_n C dX11_system_39 40 rfl 1 rfl rfl ?_
      refine z_iconst C dX11_system_40 41 rfl (-1) (by decide) ?_
      obtain ⟨σ41, hσ41, hf⟩ := x_bind hf
      refine z_putX C dX11_system_41 44 rfl hσ41 cl10 rfl w517 rfl rfl rfl ?_
      refine z_aload_n C dX11_system_44 45 rfl 1 rfl rfl ?_
      obtain ⟨v45, hv45, hf⟩ := x_bind hf
      refine z_getR C dX11_system_45 48 rfl hv45 cl10 rfl w518 ?_
      obtain ⟨v48, hv48, hf⟩ := x_bind hf
      refine z_getR C dX11_system_48 51 rfl hv48 cl2 rfl w235 ?_
      refine z_aload_n C dX11_system_51 52 rfl 1 rfl rfl ?_
      obtain ⟨v52, hv52, hf⟩ := x_bind hf
      refine z_getR C dX11_system_52 55 rfl hv52 cl10 rfl w522 ?_
      obtain ⟨v55, hv55, hf⟩ := x_bind hf
      refine z_getR C dX11_system_55 58 rfl hv55 cl7 rfl w286 ?_
      obtain ⟨o58, ho58, hf⟩ := x_bind hf
      obtain ⟨w58, hw58, hf⟩ := x_bind hf
      refine z_callVv C dX11_system_58 61 rfl ho58 cl8.1 rfl (cX8_copyFromc hw58) kX8_copyFrom kvX8_copyFrom w964 ⟨rfl, rfl⟩ ⟨Nat.le_of_ble_eq_true rfl, Nat.le_of_ble_eq_true rfl⟩ ⟨Nat.le_of_ble_eq_true rfl, Nat.le_of_ble_eq_true rfl⟩ rfl rfl (Nat.le_of_ble_eq_true rfl) ?_
      refine z_aload_n C dX11_system_61 62 rfl 1 rfl rfl ?_
      obtain ⟨v62, hv62, hf⟩ := x_bind hf
      refine z_getR C dX11_system_62 65 rfl hv62 cl10 rfl w518 ?_
      obtain ⟨o65, ho65, hf⟩ := x_bind hf
      obtain ⟨w65, hw65, hf⟩ := x_bind hf
      refine z_callVv C dX11_system_65 68 rfl ho65 cl2.1 rfl (cX2_emptyPlacesc hw65) kX2_emptyPlaces kvX2_emptyPlaces w965 ⟨rfl, rfl⟩ ⟨Nat.le_of_ble_eq_true rfl, Nat.le_of_ble_eq_true rfl⟩ ⟨Nat.le_of_ble_eq_true rfl, Nat.le_of_ble_eq_true rfl⟩ rfl rfl (Nat.le_of_ble_eq_true rfl) ?_
      refine z_aload_n C dX11_system_68 69 rfl 1 rfl rfl ?_
      obtain ⟨v69, hv69, hf⟩ := x_bind hf
      refine z_getR C dX11_system_69 72 rfl hv69 cl10 rfl w521 ?_
      obtain ⟨o72, ho72, hf⟩ := x_bind hf
      obtain ⟨w72, hw72, hf⟩ := x_bind hf
      refine z_callVv C dX11_system_72 75 rfl ho72 cl0.1 rfl (cX0_forgetc hw72) kX0_forget kvX0_forget w751 ⟨rfl, rfl⟩ ⟨Nat.le_of_ble_eq_true rfl, Nat.le_of_ble_eq_true rfl⟩ ⟨Nat.le_of_ble_eq_true rfl, Nat.le_of_ble_eq_true rfl⟩ rfl rfl (Nat.le_of_ble_eq_true rfl) ?_
      refine z_aload_n C dX11_system_75 76 rfl 1 rfl rfl ?_
      obtain ⟨v76, hv76, hf⟩ := x_bind hf
      refine z_getR C dX11_system_76 79 rfl hv76 cl10 rfl w518 ?_
      obtain ⟨v79, hv79, hf⟩ := x_bind hf
      refine z_getR C dX11_system_79 82 rfl hv79 cl2 rfl w235 ?_
      obtain ⟨v82, hv82, hf⟩ := x_bind hf
      refine z_getI C dX11_system_82 85 rfl hv82 cl8 rfl w187 ?_
      exact z_iret C (hE _ (Option.some.inj hf).symm) ⟨Nat.le_of_ble_eq_true rfl, Nat.le_of_ble_eq_true rfl⟩ dX11_system_85
    · have hf := (if_neg hc).symm.trans hf
      refine z_aload_n C dX11_system_23 24 rfl 1 rfl rfl ?_
      refine z_aload_n C dX11_system_24 25 rfl 1 rfl rfl ?_
      obtain ⟨v25, hv25, hf⟩ := x_bind hf
      refine z_getR C dX11_system_25 28 rfl hv25 cl10 rfl w522 ?_
      obtain ⟨v28, hv28, hf⟩ := x_bind hf
      refine z_getI C dX11_system_28 31 rfl hv28 cl7 rfl w291 ?_
      obtain ⟨σ31, hσ31, hf⟩ := x_bind hf
      refine z_putX C dX11_system_31 34 rfl hσ31 cl10 rfl w517 rfl rfl rfl ?_
      refine z_bipush C dX11_system_34 36 rfl (-10) (by decide) ?_
      refine z_iload_n C dX11_system_36 37 rfl 0 rfl rfl ?_
      refine z_isub C dX11_system_37 38 rfl ?_
      exact z_iret C (hE _ (Option.some.inj hf).symm) ⟨Nat.le_of_ble_eq_true rfl, Nat.le_of_ble_eq_true rfl⟩ dX11_system_38
  | inr E2 =>
    dsimp only at hf
    exact z_cVt C O dX11_system_2 ho2 cl10.1 rfl (cX11_needBytesc O.1 hw2) kX11_needBytes kvX11_needBytes w763 ⟨rfl, rfl⟩ ⟨Nat.le_of_ble_eq_true rfl, Nat.le_of_ble_eq_true rfl⟩ ⟨Nat.le_of_ble_eq_true rfl, Nat.le_of_ble_eq_true rfl⟩ rfl rfl (Nat.le_of_ble_eq_true rfl) ⟨Nat.le_of_ble_eq_true rfl, Nat.le_of_ble_eq_true rfl⟩ (hE _ (Option.some.inj hf).symm)
theorem dL_system_0 : decode cL_system 0 = .ok (.aload_n 2, 1) := by decide +kernel
theorem dL_system_1 : decode cL_system 1 = .ok (.iconst 0, 1) := by decide +kernel
theorem dL_system_2 : decode cL_system 2 = .ok (.aload_n 0, 1) := by decide +kernel
theorem dL_system_3 : decode cL_system 3 = .ok (.iload_n 1, 1) := by decide +kernel
theorem dL_system_4 : decode cL_system 4 = .ok (.invokevirtual 7, 3) := by decide +kernel
theorem dL_system_7 : decode cL_system 7 = .ok (.i2l, 1) := by decide +kernel
theorem dL_system_8 : decode cL_system 8 = .ok (.lastore, 1) := by decide +kernel
theorem dL_system_9 : decode cL_system 9 = .ok (.goto 6, 3) := by decide +kernel
theorem dL_system_12 : decode cL_system 12 = .ok (.astore_n 3, 1) := by decide +kernel
theorem dL_system_13 : decode cL_system 13 = .ok (.iconst 1, 1) := by decide +kernel
theorem dL_system_14 : decode cL_system 14 = .ok (.ireturn, 1) := by decide +kernel
theorem dL_system_15 : decode cL_system 15 = .ok (.iconst 0, 1) := by decide +kernel
theorem dL_system_16 : decode cL_system 16 = .ok (.ireturn, 1) := by decide +kernel
abbrev rmL_system : Room := { frames := 9, cells := 1, slots := 6, locals := 198 }
noncomputable def fL_system (σ : St) (x0 : Nat) (x1 : Int32) (x2 : Nat) : Option (Int32 × St) :=
(isO σ x0 10).bind fun _ =>
(fX11_system σ x0 x1).bind fun w4 =>
(match w4 with
| (Sum.inl x4r, σ4) =>
(sL σ4 x2 0 x4r.toInt64).bind fun σ8 =>
some (0, σ8)
| (Sum.inr E4, σ4) =>
if E4 = xIAE then
(some (1, σ4))
else
(none))
set_option maxHeartbeats 4000000 in
set_option maxRecDepth 100000 in
theorem cL_systemc {l : Launch} (hst : l.stackTraces = false) {adK adV : Nat → Nat} {G : xG} {A : Nat → Prop} {σ : St} {x0 : Nat} {x1 : Int32} {x2 : Nat} {c : Int32 × St} (hf : fL_system σ x0 x1 x2 = some c) : ConE l yL_system (xwsW yL_system cL_system 4 (some .int) [(0, 9, 12, 13)]) rmL_system 1 6 [.ref (x0), .int (x1), .ref (x2)] adK adV G A σ (some (.int c.1)) c.2 := by
  refine e_start hst rfl (Nat.le_of_ble_eq_true rfl) (fun X _ _ _ C O hE0 => ?_)
  have hE : ∀ r, c = r → eE X 1 6 (some (.int r.1)) r.2 := fun r e => e ▸ hE0
  show Vz X (0, 0) σ 0 [(0, .ref (x0)), (1, .int (x1)), (2, .ref (x2))] []
  unfold fL_system at hf
  refine z_aload_n C dL_system_0 1 rfl 2 rfl rfl ?_
  refine z_iconst C dL_system_1 2 rfl 0 (by decide) ?_
  refine z_aload_n C dL_system_2 3 rfl 0 rfl rfl ?_
  refine z_iload_n C dL_system_3 4 rfl 1 rfl rfl ?_
  obtain ⟨o4, ho4, hf⟩ := x_bind hf
  obtain ⟨⟨r4, σ4⟩, hw4, hf⟩ := x_bind hf
  cases r4 with
  | inl x4r =>
    dsimp only at hf
    refine z_cVn C O.2.2 dL_system_4 7 rfl ho4 cl10.1 rfl (cX11_systemc O.1 hw4) kX11_system kvX11_system w759 ⟨rfl, rfl⟩ ⟨Nat.le_of_ble_eq_true rfl, Nat.le_of_ble_eq_true rfl⟩ ⟨Nat.le_of_ble_eq_true rfl, Nat.le_of_ble_eq_true rfl⟩ rfl rfl (Nat.le_of_ble_eq_true rfl) (1, 6) rfl ?_
    refine z_i2l C dL_system_7 8 rfl ?_
    obtain ⟨σ8, hσ8, hf⟩ := x_bind hf
    refine z_lastore C dL_system_8 9 rfl hσ8 ?_
    refine z_goto C dL_system_9 15 (by decide) ?_
    refine z_iconst C dL_system_15 16 rfl 0 (by decide) ?_
    exact e_iret C (hE _ (Option.some.inj hf).symm) ⟨Nat.le_of_ble_eq_true rfl, Nat.le_of_ble_eq_true rfl⟩ dL_system_16
  | inr E4 =>
    dsimp only at hf
    by_cases hc0 : E4 = xIAE
    · subst hc0
      have hf := (if_pos rfl).symm.trans hf
      refine e_cVc C O.2.2 dL_system_4 ho4 cl10.1 rfl (cX11_systemc O.1 hw4) kX11_system kvX11_system w759 ⟨rfl, rfl⟩ ⟨Nat.le_of_ble_eq_true rfl, Nat.le_of_ble_eq_true rfl⟩ ⟨Nat.le_of_ble_eq_true rfl, Nat.le_of_ble_eq_true rfl⟩ rfl rfl (Nat.le_of_ble_eq_true rfl) [] ⟨0, 9, 12, 13⟩ [] O.2.1 (fun z hz => nomatch hz) (by decide) (by decide) w758 castIAE 12 rfl (1, 6) rfl (fun q4 => ?_)
      refine z_astore_n C dL_system_12 13 rfl rfl rfl [(3, .ref (q4)), (0, .ref (x0)), (1, .int (x1)), (2, .ref (x2))] rfl ?_
      refine z_iconst C dL_system_13 14 rfl 1 (by decide) ?_
      exact e_iret C (hE _ (Option.some.inj hf).symm) ⟨Nat.le_of_ble_eq_true rfl, Nat.le_of_ble_eq_true rfl⟩ dL_system_14
    · have hf := (if_neg hc0).symm.trans hf
      cases hf
