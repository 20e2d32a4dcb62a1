/-! methods: X3_draw X3_hasCanonOf X4_forgetNames X4_orderByNumbers X4_rename X4_findOf X5_endOf X5_firstRule X5_secondRule X5_shift X8_add X5_addRuleOf X5_laid -/
theorem dX3_draw_0 : decode cX3_draw 0 = .ok (.aload_n 0, 1) := by decide +kernel
theorem dX3_draw_1 : decode cX3_draw 1 = .ok (.aload_n 0, 1) := by decide +kernel
theorem dX3_draw_2 : decode cX3_draw 2 = .ok (.getfield 61, 3) := by decide +kernel
theorem dX3_draw_5 : decode cX3_draw 5 = .ok (.getfield 65, 3) := by decide +kernel
theorem dX3_draw_8 : decode cX3_draw 8 = .ok (.iload_n 1, 1) := by decide +kernel
theorem dX3_draw_9 : decode cX3_draw 9 = .ok (.iaload, 1) := by decide +kernel
theorem dX3_draw_10 : decode cX3_draw 10 = .ok (.putfield 9, 3) := by decide +kernel
theorem dX3_draw_13 : decode cX3_draw 13 = .ok (.aload_n 0, 1) := by decide +kernel
theorem dX3_draw_14 : decode cX3_draw 14 = .ok (.iconst 0, 1) := by decide +kernel
theorem dX3_draw_15 : decode cX3_draw 15 = .ok (.putfield 15, 3) := by decide +kernel
theorem dX3_draw_18 : decode cX3_draw 18 = .ok (.aload_n 0, 1) := by decide +kernel
theorem dX3_draw_19 : decode cX3_draw 19 = .ok (.getfield 61, 3) := by decide +kernel
theorem dX3_draw_22 : decode cX3_draw 22 = .ok (.getfield 69, 3) := by decide +kernel
theorem dX3_draw_25 : decode cX3_draw 25 = .ok (.iload_n 1, 1) := by decide +kernel
theorem dX3_draw_26 : decode cX3_draw 26 = .ok (.laload, 1) := by decide +kernel
theorem dX3_draw_27 : decode cX3_draw 27 = .ok (.invokestatic 73, 3) := by decide +kernel
theorem dX3_draw_30 : decode cX3_draw 30 = .ok (.istore_n 2, 1) := by decide +kernel
theorem dX3_draw_31 : decode cX3_draw 31 = .ok (.aload_n 0, 1) := by decide +kernel
theorem dX3_draw_32 : decode cX3_draw 32 = .ok (.iload_n 2, 1) := by decide +kernel
theorem dX3_draw_33 : decode cX3_draw 33 = .ok (.invokevirtual 78, 3) := by decide +kernel
theorem dX3_draw_36 : decode cX3_draw 36 = .ok (.aload_n 0, 1) := by decide +kernel
theorem dX3_draw_37 : decode cX3_draw 37 = .ok (.iconst 0, 1) := by decide +kernel
theorem dX3_draw_38 : decode cX3_draw 38 = .ok (.putfield 25, 3) := by decide +kernel
theorem dX3_draw_41 : decode cX3_draw 41 = .ok (.aload_n 0, 1) := by decide +kernel
theorem dX3_draw_42 : decode cX3_draw 42 = .ok (.iload_n 2, 1) := by decide +kernel
theorem dX3_draw_43 : decode cX3_draw 43 = .ok (.iconst (-1), 1) := by decide +kernel
theorem dX3_draw_44 : decode cX3_draw 44 = .ok (.invokevirtual 82, 3) := by decide +kernel
theorem dX3_draw_47 : decode cX3_draw 47 = .ok (.iconst 0, 1) := by decide +kernel
theorem dX3_draw_48 : decode cX3_draw 48 = .ok (.istore_n 3, 1) := by decide +kernel
theorem dX3_draw_49 : decode cX3_draw 49 = .ok (.iload_n 3, 1) := by decide +kernel
theorem dX3_draw_50 : decode cX3_draw 50 = .ok (.aload_n 0, 1) := by decide +kernel
theorem dX3_draw_51 : decode cX3_draw 51 = .ok (.getfield 9, 3) := by decide +kernel
theorem dX3_draw_54 : decode cX3_draw 54 = .ok (.if_icmp .ge 23, 3) := by decide +kernel
theorem dX3_draw_57 : decode cX3_draw 57 = .ok (.aload_n 0, 1) := by decide +kernel
theorem dX3_draw_58 : decode cX3_draw 58 = .ok (.iload_n 3, 1) := by decide +kernel
theorem dX3_draw_59 : decode cX3_draw 59 = .ok (.aload_n 0, 1) := by decide +kernel
theorem dX3_draw_60 : decode cX3_draw 60 = .ok (.getfield 61, 3) := by decide +kernel
theorem dX3_draw_63 : decode cX3_draw 63 = .ok (.iload_n 1, 1) := by decide +kernel
theorem dX3_draw_64 : decode cX3_draw 64 = .ok (.iload_n 3, 1) := by decide +kernel
theorem dX3_draw_65 : decode cX3_draw 65 = .ok (.invokevirtual 86, 3) := by decide +kernel
theorem dX3_draw_68 : decode cX3_draw 68 = .ok (.invokevirtual 90, 3) := by decide +kernel
theorem dX3_draw_71 : decode cX3_draw 71 = .ok (.iinc 3 1, 3) := by decide +kernel
theorem dX3_draw_74 : decode cX3_draw 74 = .ok (.goto (-25), 3) := by decide +kernel
theorem dX3_draw_77 : decode cX3_draw 77 = .ok (.aload_n 0, 1) := by decide +kernel
theorem dX3_draw_78 : decode cX3_draw 78 = .ok (.iload_n 2, 1) := by decide +kernel
theorem dX3_draw_79 : decode cX3_draw 79 = .ok (.invokevirtual 78, 3) := by decide +kernel
theorem dX3_draw_82 : decode cX3_draw 82 = .ok (.iconst 0, 1) := by decide +kernel
theorem dX3_draw_83 : decode cX3_draw 83 = .ok (.istore_n 3, 1) := by decide +kernel
theorem dX3_draw_84 : decode cX3_draw 84 = .ok (.iload_n 3, 1) := by decide +kernel
theorem dX3_draw_85 : decode cX3_draw 85 = .ok (.aload_n 0, 1) := by decide +kernel
theorem dX3_draw_86 : decode cX3_draw 86 = .ok (.getfield 9, 3) := by decide +kernel
theorem dX3_draw_89 : decode cX3_draw 89 = .ok (.if_icmp .ge 15, 3) := by decide +kernel
theorem dX3_draw_92 : decode cX3_draw 92 = .ok (.aload_n 0, 1) := by decide +kernel
theorem dX3_draw_93 : decode cX3_draw 93 = .ok (.iload_n 1, 1) := by decide +kernel
theorem dX3_draw_94 : decode cX3_draw 94 = .ok (.iload_n 3, 1) := by decide +kernel
theorem dX3_draw_95 : decode cX3_draw 95 = .ok (.invokevirtual 93, 3) := by decide +kernel
theorem dX3_draw_98 : decode cX3_draw 98 = .ok (.iinc 3 1, 3) := by decide +kernel
theorem dX3_draw_101 : decode cX3_draw 101 = .ok (.goto (-17), 3) := by decide +kernel
theorem dX3_draw_104 : decode cX3_draw 104 = .ok (.return_, 1) := by decide +kernel
abbrev rmX3_draw : Room := { frames := 3, cells := 0, slots := 0, locals := 109 }
noncomputable def fLX3_draw_49 (x0 : Nat) (x1 : Int32) (x2 : Int32) (a : Int32 × St) : Option ((Int32 × St) ⊕ (St)) :=
(gI a.2 x0 3 1).bind fun v51 =>
if v51 ≤ a.1 then
(some (Sum.inr a.2))
else
((gR a.2 x0 3 0).bind fun v60 =>
(isO a.2 v60 2).bind fun _ =>
(fX2_codeAt a.2 v60 x1 a.1).bind fun w65 =>
(isO a.2 x0 3).bind fun _ =>
(fX3_drawStep a.2 x0 a.1 w65).bind fun w68 =>
xlet (a.1 + 1) fun v71 =>
some (Sum.inl (v71, w68)))
set_option maxHeartbeats 4000000 in
set_option maxRecDepth 100000 in
theorem lpX3_draw_49 {X : xX} {x0 : Nat} {x1 : Int32} {x2 : Int32}  {a0 : Int32 × St} {b : St} (C : Ok X cX3_draw 4 RX3 rmX3_draw none) (hb : iterP (fLX3_draw_49 x0 x1 x2) a0 = some b) (hy0 : ∀ s, b = s → V X (0, 0) s 77 [(0, .ref (x0)), (1, .int (x1)), (2, .int (x2))] []) : V X (0, 0) a0.2 49 [(0, .ref (x0)), (1, .int (x1)), (2, .int (x2)), (3, .int (a0.1))] [] := by
  obtain ⟨n, hn⟩ := iterP_some hb
  refine x_loop (P := fun a => V X (0, 0) a.2 49 [(0, .ref (x0)), (1, .int (x1)), (2, .int (x2)), (3, .int (a.1))] []) ?_ n a0 hn
  intro a c hf hK hxx
  have hx0 : ∀ s, c = Sum.inr s → V X (0, 0) s 77 [(0, .ref (x0)), (1, .int (x1)), (2, .int (x2))] [] := fun s e => hy0 s (hxx _ e).symm
  unfold fLX3_draw_49 at hf
  refine x_iload_n C dX3_draw_49 50 rfl 3 rfl rfl ?_
  refine x_aload_n C dX3_draw_50 51 rfl 0 rfl rfl ?_
  obtain ⟨v51, hv51, hf⟩ := x_bind hf
  refine x_getI C dX3_draw_51 54 rfl hv51 cl3 rfl w458 ?_
  refine x_icmp_ge C dX3_draw_54 77 (by decide) 57 rfl (fun hc => ?_) (fun hc => ?_)
  · have hf := (if_pos hc).symm.trans hf
    refine x_lv [0, 1, 2] (lv' := [(0, .ref (x0)), (1, .int (x1)), (2, .int (x2))]) rfl ?_
    exact hx0 _ (Option.some.inj hf).symm
  · have hf := (if_neg hc).symm.trans hf
    refine x_aload_n C dX3_draw_57 58 rfl 0 rfl rfl ?_
    refine x_iload_n C dX3_draw_58 59 rfl 3 rfl rfl ?_
    refine x_aload_n C dX3_draw_59 60 rfl 0 rfl rfl ?_
    obtain ⟨v60, hv60, hf⟩ := x_bind hf
    refine x_getR C dX3_draw_60 63 rfl hv60 cl3 rfl w457 ?_
    refine x_iload_n C dX3_draw_63 64 rfl 1 rfl rfl ?_
    refine x_iload_n C dX3_draw_64 65 rfl 3 rfl rfl ?_
    obtain ⟨o65, ho65, hf⟩ := x_bind hf
    obtain ⟨w65, hw65, hf⟩ := x_bind hf
    refine x_callVi C dX3_draw_65 68 rfl ho65 cl2.1 rfl (cX2_codeAtc hw65) kX2_codeAt kvX2_codeAt w1162 ⟨rfl, rfl⟩ ⟨Nat.le_of_ble_eq_true rfl, Nat.le_of_ble_eq_true rfl⟩ ⟨Nat.zero_le _, Nat.zero_le _⟩ rfl rfl (Nat.le_of_ble_eq_true rfl) ?_
    obtain ⟨o68, ho68, hf⟩ := x_bind hf
    obtain ⟨w68, hw68, hf⟩ := x_bind hf
    refine x_callVv C dX3_draw_68 71 rfl ho68 cl3.1 rfl (cX3_drawStepc hw68) kX3_drawStep kvX3_drawStep w1166 ⟨rfl, rfl⟩ ⟨Nat.le_of_ble_eq_true rfl, Nat.le_of_ble_eq_true rfl⟩ ⟨Nat.zero_le _, Nat.zero_le _⟩ rfl rfl (Nat.le_of_ble_eq_true rfl) ?_
    obtain ⟨v71, ev71, hf⟩ := xlet_some hf
    refine x_iinc C dX3_draw_71 74 rfl 3 rfl v71 ev71 rfl [(3, .int (v71)), (0, .ref (x0)), (1, .int (x1)), (2, .int (x2))] rfl ?_
    refine x_goto C dX3_draw_74 49 (by decide) ?_
    refine x_lv [1, 2, 3, 0] (lv' := [(0, .ref (x0)), (1, .int (x1)), (2, .int (x2)), (3, .int (v71))]) rfl ?_
    exact hK _ (Option.some.inj hf).symm
noncomputable def fLX3_draw_84 (x0 : Nat) (x1 : Int32) (a : Int32 × St) : Option ((Int32 × St) ⊕ (St)) :=
(gI a.2 x0 3 1).bind fun v86 =>
if v86 ≤ a.1 then
(some (Sum.inr a.2))
else
((isO a.2 x0 3).bind fun _ =>
(fX3_makeLeftmost a.2 x0 x1 a.1).bind fun w95 =>
xlet (a.1 + 1) fun v98 =>
some (Sum.inl (v98, w95)))
set_option maxHeartbeats 4000000 in
set_option maxRecDepth 100000 in
theorem lpX3_draw_84 {X : xX} {x0 : Nat} {x1 : Int32}  {a0 : Int32 × St} {b : St} (C : Ok X cX3_draw 4 RX3 rmX3_draw none) (hb : iterP (fLX3_draw_84 x0 x1) a0 = some b) (hy0 : ∀ s, b = s → V X (0, 0) s 104 [] []) : V X (0, 0) a0.2 84 [(0, .ref (x0)), (1, .int (x1)), (3, .int (a0.1))] [] := by
  obtain ⟨n, hn⟩ := iterP_some hb
  refine x_loop (P := fun a => V X (0, 0) a.2 84 [(0, .ref (x0)), (1, .int (x1)), (3, .int (a.1))] []) ?_ n a0 hn
  intro a c hf hK hxx
  have hx0 : ∀ s, c = Sum.inr s → V X (0, 0) s 104 [] [] := fun s e => hy0 s (hxx _ e).symm
  unfold fLX3_draw_84 at hf
  refine x_iload_n C dX3_draw_84 85 rfl 2 rfl rfl ?_
  refine x_aload_n C dX3_draw_85 86 rfl 0 rfl rfl ?_
  obtain ⟨v86, hv86, hf⟩ := x_bind hf
  refine x_getI C dX3_draw_86 89 rfl hv86 cl3 rfl w458 ?_
  refine x_icmp_ge C dX3_draw_89 104 (by decide) 92 rfl (fun hc => ?_) (fun hc => ?_)
  · have hf := (if_pos hc).symm.trans hf
    refine x_lv [] (lv' := []) rfl ?_
    exact hx0 _ (Option.some.inj hf).symm
  · have hf := (if_neg hc).symm.trans hf
    refine x_aload_n C dX3_draw_92 93 rfl 0 rfl rfl ?_
    refine x_iload_n C dX3_draw_93 94 rfl 1 rfl rfl ?_
    refine x_iload_n C dX3_draw_94 95 rfl 2 rfl rfl ?_
    obtain ⟨o95, ho95, hf⟩ := x_bind hf
    obtain ⟨w95, hw95, hf⟩ := x_bind hf
    refine x_callVv C dX3_draw_95 98 rfl ho95 cl3.1 rfl (cX3_makeLeftmostc hw95) kX3_makeLeftmost kvX3_makeLeftmost w1188 ⟨rfl, rfl⟩ ⟨Nat.le_of_ble_eq_true rfl, Nat.le_of_ble_eq_true rfl⟩ ⟨Nat.zero_le _, Nat.zero_le _⟩ rfl rfl (Nat.le_of_ble_eq_true rfl) ?_
    obtain ⟨v98, ev98, hf⟩ := xlet_some hf
    refine x_iinc C dX3_draw_98 101 rfl 2 rfl v98 ev98 rfl [(3, .int (v98)), (0, .ref (x0)), (1, .int (x1))] rfl ?_
    refine x_goto C dX3_draw_101 84 (by decide) ?_
    refine x_lv [1, 2, 0] (lv' := [(0, .ref (x0)), (1, .int (x1)), (3, .int (v98))]) rfl ?_
    exact hK _ (Option.some.inj hf).symm
noncomputable def fX3_draw (σ : St) (x0 : Nat) (x1 : Int32) : Option (St) :=
(gR σ x0 3 0).bind fun v2 =>
(gR σ v2 2 3).bind fun v5 =>
(aI σ v5 0 x1).bind fun v9 =>
(wrF σ x0 3 1 (.int (v9))).bind fun σ10 =>
(wrF σ10 x0 3 2 (.int (0))).bind fun σ15 =>
(gR σ15 x0 3 0).bind fun v19 =>
(gR σ15 v19 2 1).bind fun v22 =>
(aL σ15 v22 x1).bind fun v26 =>
(fX10_length v26).bind fun w27 =>
(isO σ15 x0 3).bind fun _ =>
(fX3_layTold σ15 x0 w27).bind fun w33 =>
(wrF w33 x0 3 5 (.int (0))).bind fun σ38 =>
(isO σ38 x0 3).bind fun _ =>
(fX3_addLetters σ38 x0 w27 (-1)).bind fun w44 =>
(iterP (fLX3_draw_49 x0 x1 w27) (0, w44)).bind fun b49 =>
(isO b49 x0 3).bind fun _ =>
(fX3_layTold b49 x0 w27).bind fun w79 =>
(iterP (fLX3_draw_84 x0 x1) (0, w79)).bind fun b84 =>
some b84
set_option maxHeartbeats 4000000 in
set_option maxRecDepth 100000 in
theorem cX3_drawc {l : Launch} {G : xG} {A : Nat → Prop} {σ : St} {x0 : Nat} {x1 : Int32} {c : St} (hf : fX3_draw σ x0 x1 = some c) : Con l yX3_draw (xws yX3_draw cX3_draw 4 none) rmX3_draw [.ref (x0), .int (x1)] G A σ none c := by
  refine x_start rfl (Nat.le_of_ble_eq_true rfl) (fun X _ _ _ C hE0 => ?_)
  have hE : ∀ r, c = r → xE1 X none r := fun r e => e ▸ hE0
  show V X (0, 0) σ 0 [(0, .ref (x0)), (1, .int (x1))] []
  unfold fX3_draw at hf
  refine x_aload_n C dX3_draw_0 1 rfl 0 rfl rfl ?_
  refine x_aload_n C dX3_draw_1 2 rfl 0 rfl rfl ?_
  obtain ⟨v2, hv2, hf⟩ := x_bind hf
  refine x_getR C dX3_draw_2 5 rfl hv2 cl3 rfl w457 ?_
  obtain ⟨v5, hv5, hf⟩ := x_bind hf
  refine x_getR C dX3_draw_5 8 rfl hv5 cl2 rfl w243 ?_
  refine x_iload_n C dX3_draw_8 9 rfl 1 rfl rfl ?_
  obtain ⟨v9, hv9, hf⟩ := x_bind hf
  refine x_iaload C dX3_draw_9 10 rfl hv9 ?_
  obtain ⟨σ10, hσ10, hf⟩ := x_bind hf
  refine x_putX C dX3_draw_10 13 rfl hσ10 cl3 rfl w458 rfl rfl rfl ?_
  refine x_aload_n C dX3_draw_13 14 rfl 0 rfl rfl ?_
  refine x_iconst C dX3_draw_14 15 rfl 0 (by decide) ?_
  obtain ⟨σ15, hσ15, hf⟩ := x_bind hf
  refine x_putX C dX3_draw_15 18 rfl hσ15 cl3 rfl w459 rfl rfl rfl ?_
  refine x_aload_n C dX3_draw_18 19 rfl 0 rfl rfl ?_
  obtain ⟨v19, hv19, hf⟩ := x_bind hf
  refine x_getR C dX3_draw_19 22 rfl hv19 cl3 rfl w457 ?_
  obtain ⟨v22, hv22, hf⟩ := x_bind hf
  refine x_getR C dX3_draw_22 25 rfl hv22 cl2 rfl w238 ?_
  refine x_iload_n C dX3_draw_25 26 rfl 1 rfl rfl ?_
  obtain ⟨v26, hv26, hf⟩ := x_bind hf
  refine x_laload C dX3_draw_26 27 rfl hv26 ?_
  obtain ⟨w27, hw27, hf⟩ := x_bind hf
  refine x_callSi C dX3_draw_27 30 rfl (cX10_lengthc hw27) kX10_length ksX10_length w1153 ⟨rfl, rfl⟩ ⟨Nat.le_of_ble_eq_true rfl, Nat.le_of_ble_eq_true rfl⟩ ⟨Nat.zero_le _, Nat.zero_le _⟩ rfl rfl (Nat.le_of_ble_eq_true rfl) ?_
  refine x_istore_n C dX3_draw_30 31 rfl rfl rfl [(2, .int (w27)), (0, .ref (x0)), (1, .int (x1))] rfl ?_
  refine x_aload_n C dX3_draw_31 32 rfl 1 rfl rfl ?_
  refine x_iload_n C dX3_draw_32 33 rfl 0 rfl rfl ?_
  obtain ⟨o33, ho33, hf⟩ := x_bind hf
  obtain ⟨w33, hw33, hf⟩ := x_bind hf
  refine x_callVv C dX3_draw_33 36 rfl ho33 cl3.1 rfl (cX3_layToldc hw33) kX3_layTold kvX3_layTold w1154 ⟨rfl, rfl⟩ ⟨Nat.le_of_ble_eq_true rfl, Nat.le_of_ble_eq_true rfl⟩ ⟨Nat.zero_le _, Nat.zero_le _⟩ rfl rfl (Nat.le_of_ble_eq_true rfl) ?_
  refine x_aload_n C dX3_draw_36 37 rfl 1 rfl rfl ?_
  refine x_iconst C dX3_draw_37 38 rfl 0 (by decide) ?_
  obtain ⟨σ38, hσ38, hf⟩ := x_bind hf
  refine x_putX C dX3_draw_38 41 rfl hσ38 cl3 rfl w463 rfl rfl rfl ?_
  refine x_aload_n C dX3_draw_41 42 rfl 1 rfl rfl ?_
  refine x_iload_n C dX3_draw_42 43 rfl 0 rfl rfl ?_
  refine x_iconst C dX3_draw_43 44 rfl (-1) (by decide) ?_
  obtain ⟨o44, ho44, hf⟩ := x_bind hf
  obtain ⟨w44, hw44, hf⟩ := x_bind hf
  refine x_callVv C dX3_draw_44 47 rfl ho44 cl3.1 rfl (cX3_addLettersc hw44) kX3_addLetters kvX3_addLetters w1158 ⟨rfl, rfl⟩ ⟨Nat.le_of_ble_eq_true rfl, Nat.le_of_ble_eq_true rfl⟩ ⟨Nat.zero_le _, Nat.zero_le _⟩ rfl rfl (Nat.le_of_ble_eq_true rfl) ?_
  refine x_iconst C dX3_draw_47 48 rfl 0 (by decide) ?_
  refine x_istore_n C dX3_draw_48 49 rfl rfl rfl [(3, .int (0)), (2, .int (w27)), (0, .ref (x0)), (1, .int (x1))] rfl ?_
  obtain ⟨b49, hb49, hf⟩ := x_bind hf
  refine x_lv [2, 3, 1, 0] (lv' := [(0, .ref (x0)), (1, .int (x1)), (2, .int (w27)), (3, .int (0))]) rfl ?_
  refine lpX3_draw_49 C hb49 (fun s49 e49 => ?_)
  subst e49
  refine x_aload_n C dX3_draw_77 78 rfl 0 rfl rfl ?_
  refine x_iload_n C dX3_draw_78 79 rfl 2 rfl rfl ?_
  obtain ⟨o79, ho79, hf⟩ := x_bind hf
  obtain ⟨w79, hw79, hf⟩ := x_bind hf
  refine x_callVv C dX3_draw_79 82 rfl ho79 cl3.1 rfl (cX3_layToldc hw79) kX3_layTold kvX3_layTold w1154 ⟨rfl, rfl⟩ ⟨Nat.le_of_ble_eq_true rfl, Nat.le_of_ble_eq_true rfl⟩ ⟨Nat.zero_le _, Nat.zero_le _⟩ rfl rfl (Nat.le_of_ble_eq_true rfl) ?_
  refine x_iconst C dX3_draw_82 83 rfl 0 (by decide) ?_
  refine x_istore_n C dX3_draw_83 84 rfl rfl rfl [(3, .int (0)), (0, .ref (x0)), (1, .int (x1)), (2, .int (w27))] rfl ?_
  obtain ⟨b84, hb84, hf⟩ := x_bind hf
  refine x_lv [1, 2, 0] (lv' := [(0, .ref (x0)), (1, .int (x1)), (3, .int (0))]) rfl ?_
  refine lpX3_draw_84 C hb84 (fun s84 e84 => ?_)
  subst e84
  exact x_vret C (hE _ (Option.some.inj hf).symm) dX3_draw_104
theorem dX3_hasCanonOf_0 : decode cX3_hasCanonOf 0 = .ok (.aload_n 0, 1) := by decide +kernel
theorem dX3_hasCanonOf_1 : decode cX3_hasCanonOf 1 = .ok (.getfield 9, 3) := by decide +kernel
theorem dX3_hasCanonOf_4 : decode cX3_hasCanonOf 4 = .ok (.aload_n 1, 1) := by decide +kernel
theorem dX3_hasCanonOf_5 : decode cX3_hasCanonOf 5 = .ok (.getfield 9, 3) := by decide +kernel
theorem dX3_hasCanonOf_8 : decode cX3_hasCanonOf 8 = .ok (.if_icmp .eq 5, 3) := by decide +kernel
theorem dX3_hasCanonOf_11 : decode cX3_hasCanonOf 11 = .ok (.iconst 0, 1) := by decide +kernel
theorem dX3_hasCanonOf_12 : decode cX3_hasCanonOf 12 = .ok (.ireturn, 1) := by decide +kernel
theorem dX3_hasCanonOf_13 : decode cX3_hasCanonOf 13 = .ok (.iconst 0, 1) := by decide +kernel
theorem dX3_hasCanonOf_14 : decode cX3_hasCanonOf 14 = .ok (.istore_n 2, 1) := by decide +kernel
theorem dX3_hasCanonOf_15 : decode cX3_hasCanonOf 15 = .ok (.iload_n 2, 1) := by decide +kernel
theorem dX3_hasCanonOf_16 : decode cX3_hasCanonOf 16 = .ok (.aload_n 0, 1) := by decide +kernel
theorem dX3_hasCanonOf_17 : decode cX3_hasCanonOf 17 = .ok (.getfield 9, 3) := by decide +kernel
theorem dX3_hasCanonOf_20 : decode cX3_hasCanonOf 20 = .ok (.if_icmp .ge 41, 3) := by decide +kernel
theorem dX3_hasCanonOf_23 : decode cX3_hasCanonOf 23 = .ok (.aload_n 0, 1) := by decide +kernel
theorem dX3_hasCanonOf_24 : decode cX3_hasCanonOf 24 = .ok (.getfield 55, 3) := by decide +kernel
theorem dX3_hasCanonOf_27 : decode cX3_hasCanonOf 27 = .ok (.iload_n 2, 1) := by decide +kernel
theorem dX3_hasCanonOf_28 : decode cX3_hasCanonOf 28 = .ok (.iaload, 1) := by decide +kernel
theorem dX3_hasCanonOf_29 : decode cX3_hasCanonOf 29 = .ok (.aload_n 1, 1) := by decide +kernel
theorem dX3_hasCanonOf_30 : decode cX3_hasCanonOf 30 = .ok (.getfield 55, 3) := by decide +kernel
theorem dX3_hasCanonOf_33 : decode cX3_hasCanonOf 33 = .ok (.iload_n 2, 1) := by decide +kernel
theorem dX3_hasCanonOf_34 : decode cX3_hasCanonOf 34 = .ok (.iaload, 1) := by decide +kernel
theorem dX3_hasCanonOf_35 : decode cX3_hasCanonOf 35 = .ok (.if_icmp .ne 18, 3) := by decide +kernel
theorem dX3_hasCanonOf_38 : decode cX3_hasCanonOf 38 = .ok (.aload_n 0, 1) := by decide +kernel
theorem dX3_hasCanonOf_39 : decode cX3_hasCanonOf 39 = .ok (.getfield 58, 3) := by decide +kernel
theorem dX3_hasCanonOf_42 : decode cX3_hasCanonOf 42 = .ok (.iload_n 2, 1) := by decide +kernel
theorem dX3_hasCanonOf_43 : decode cX3_hasCanonOf 43 = .ok (.iaload, 1) := by decide +kernel
theorem dX3_hasCanonOf_44 : decode cX3_hasCanonOf 44 = .ok (.aload_n 1, 1) := by decide +kernel
theorem dX3_hasCanonOf_45 : decode cX3_hasCanonOf 45 = .ok (.getfield 58, 3) := by decide +kernel
theorem dX3_hasCanonOf_48 : decode cX3_hasCanonOf 48 = .ok (.iload_n 2, 1) := by decide +kernel
theorem dX3_hasCanonOf_49 : decode cX3_hasCanonOf 49 = .ok (.iaload, 1) := by decide +kernel
theorem dX3_hasCanonOf_50 : decode cX3_hasCanonOf 50 = .ok (.if_icmp .eq 5, 3) := by decide +kernel
theorem dX3_hasCanonOf_53 : decode cX3_hasCanonOf 53 = .ok (.iconst 0, 1) := by decide +kernel
theorem dX3_hasCanonOf_54 : decode cX3_hasCanonOf 54 = .ok (.ireturn, 1) := by decide +kernel
theorem dX3_hasCanonOf_55 : decode cX3_hasCanonOf 55 = .ok (.iinc 2 1, 3) := by decide +kernel
theorem dX3_hasCanonOf_58 : decode cX3_hasCanonOf 58 = .ok (.goto (-43), 3) := by decide +kernel
theorem dX3_hasCanonOf_61 : decode cX3_hasCanonOf 61 = .ok (.iconst 1, 1) := by decide +kernel
theorem dX3_hasCanonOf_62 : decode cX3_hasCanonOf 62 = .ok (.ireturn, 1) := by decide +kernel
abbrev rmX3_hasCanonOf : Room := { frames := 0, cells := 0, slots := 0, locals := 0 }
noncomputable def fLX3_hasCanonOf_15 (σ : St) (x0 : Nat) (x1 : Nat) (a : Int32) : Option ((Int32) ⊕ ((Unit) ⊕ (Unit))) :=
(gI σ x0 3 1).bind fun v17 =>
if v17 ≤ a then
(some (Sum.inr (Sum.inr ())))
else
((gR σ x0 3 15).bind fun v24 =>
(aI σ v24 0 a).bind fun v28 =>
(gR σ x1 3 15).bind fun v30 =>
(aI σ v30 0 a).bind fun v34 =>
if v28 = v34 then
((gR σ x0 3 16).bind fun v39 =>
(aI σ v39 0 a).bind fun v43 =>
(gR σ x1 3 16).bind fun v45 =>
(aI σ v45 0 a).bind fun v49 =>
if v43 = v49 then
(xlet (a + 1) fun v55 =>
some (Sum.inl v55))
else
(some (Sum.inr (Sum.inl ()))))
else
(some (Sum.inr (Sum.inl ()))))
set_option maxHeartbeats 4000000 in
set_option maxRecDepth 100000 in
theorem lpX3_hasCanonOf_15 {X : xX} {σ : St} {x0 : Nat} {x1 : Nat}  {a0 : Int32} {b : (Unit) ⊕ (Unit)} (C : Ok X cX3_hasCanonOf 3 RX3 rmX3_hasCanonOf (some .boolean)) (hb : iterP (fLX3_hasCanonOf_15 σ x0 x1) a0 = some b) (hy0 : ∀ s, b = (Sum.inl s) → V X (0, 0) σ 53 [] []) (hy1 : ∀ s, b = (Sum.inr s) → V X (0, 0) σ 61 [] []) : V X (0, 0) σ 15 [(0, .ref (x0)), (1, .ref (x1)), (2, .int (a0))] [] := by
  obtain ⟨n, hn⟩ := iterP_some hb
  refine x_loop (P := fun a => V X (0, 0) σ 15 [(0, .ref (x0)), (1, .ref (x1)), (2, .int (a))] []) ?_ n a0 hn
  intro a c hf hK hxx
  have hx0 : ∀ s, c = Sum.inr (Sum.inl s) → V X (0, 0) σ 53 [] [] := fun s e => hy0 s (hxx _ e).symm
  have hx1 : ∀ s, c = Sum.inr (Sum.inr s) → V X (0, 0) σ 61 [] [] := fun s e => hy1 s (hxx _ e).symm
  unfold fLX3_hasCanonOf_15 at hf
  refine x_iload_n C dX3_hasCanonOf_15 16 rfl 2 rfl rfl ?_
  refine x_aload_n C dX3_hasCanonOf_16 17 rfl 0 rfl rfl ?_
  obtain ⟨v17, hv17, hf⟩ := x_bind hf
  refine x_getI C dX3_hasCanonOf_17 20 rfl hv17 cl3 rfl w458 ?_
  refine x_icmp_ge C dX3_hasCanonOf_20 61 (by decide) 23 rfl (fun hc => ?_) (fun hc => ?_)
  · have hf := (if_pos hc).symm.trans hf
    refine x_lv [] (lv' := []) rfl ?_
    exact hx1 _ (Option.some.inj hf).symm
  · have hf := (if_neg hc).symm.trans hf
    refine x_aload_n C dX3_hasCanonOf_23 24 rfl 0 rfl rfl ?_
    obtain ⟨v24, hv24, hf⟩ := x_bind hf
    refine x_getR C dX3_hasCanonOf_24 27 rfl hv24 cl3 rfl w476 ?_
    refine x_iload_n C dX3_hasCanonOf_27 28 rfl 2 rfl rfl ?_
    obtain ⟨v28, hv28, hf⟩ := x_bind hf
    refine x_iaload C dX3_hasCanonOf_28 29 rfl hv28 ?_
    refine x_aload_n C dX3_hasCanonOf_29 30 rfl 1 rfl rfl ?_
    obtain ⟨v30, hv30, hf⟩ := x_bind hf
    refine x_getR C dX3_hasCanonOf_30 33 rfl hv30 cl3 rfl w476 ?_
    refine x_iload_n C dX3_hasCanonOf_33 34 rfl 2 rfl rfl ?_
    obtain ⟨v34, hv34, hf⟩ := x_bind hf
    refine x_iaload C dX3_hasCanonOf_34 35 rfl hv34 ?_
    refine x_icmp_ne C dX3_hasCanonOf_35 53 (by decide) 38 rfl (fun hc => ?_) (fun hc => ?_)
    · have hf := (if_neg hc).symm.trans hf
      refine x_lv [] (lv' := []) rfl ?_
      exact hx0 _ (Option.some.inj hf).symm
    · have hf := (if_pos hc).symm.trans hf
      refine x_aload_n C dX3_hasCanonOf_38 39 rfl 0 rfl rfl ?_
      obtain ⟨v39, hv39, hf⟩ := x_bind hf
      refine x_getR C dX3_hasCanonOf_39 42 rfl hv39 cl3 rfl w478 ?_
      refine x_iload_n C dX3_hasCanonOf_42 43 rfl 2 rfl rfl ?_
      obtain ⟨v43, hv43, hf⟩ := x_bind hf
      refine x_iaload C dX3_hasCanonOf_43 44 rfl hv43 ?_
      refine x_aload_n C dX3_hasCanonOf_44 45 rfl 1 rfl rfl ?_
      obtain ⟨v45, hv45, hf⟩ := x_bind hf
      refine x_getR C dX3_hasCanonOf_45 48 rfl hv45 cl3 rfl w478 ?_
      refine x_iload_n C dX3_hasCanonOf_48 49 rfl 2 rfl rfl ?_
      obtain ⟨v49, hv49, hf⟩ := x_bind hf
      refine x_iaload C dX3_hasCanonOf_49 50 rfl hv49 ?_
      refine x_icmp_eq C dX3_hasCanonOf_50 55 (by decide) 53 rfl (fun hc => ?_) (fun hc => ?_)
      · have hf := (if_pos hc).symm.trans hf
        obtain ⟨v55, ev55, hf⟩ := xlet_some hf
        refine x_iinc C dX3_hasCanonOf_55 58 rfl 2 rfl v55 ev55 rfl [(2, .int (v55)), (0, .ref (x0)), (1, .ref (x1))] rfl ?_
        refine x_goto C dX3_hasCanonOf_58 15 (by decide) ?_
        refine x_lv [1, 2, 0] (lv' := [(0, .ref (x0)), (1, .ref (x1)), (2, .int (v55))]) rfl ?_
        exact hK _ (Option.some.inj hf).symm
      · have hf := (if_neg hc).symm.trans hf
        refine x_lv [] (lv' := []) rfl ?_
        exact hx0 _ (Option.some.inj hf).symm
noncomputable def fX3_hasCanonOf (σ : St) (x0 : Nat) (x1 : Nat) : Option (Int32) :=
(gI σ x0 3 1).bind fun v1 =>
(gI σ x1 3 1).bind fun v5 =>
if v1 = v5 then
((iterP (fLX3_hasCanonOf_15 σ x0 x1) 0).bind fun b15 =>
(match b15 with
| .inl s15 =>
some 0
| .inr s15 =>
some 1))
else
(some 0)
set_option maxHeartbeats 4000000 in
set_option maxRecDepth 100000 in
theorem cX3_hasCanonOfc {l : Launch} {G : xG} {A : Nat → Prop} {σ : St} {x0 : Nat} {x1 : Nat} {c : Int32} (hf : fX3_hasCanonOf σ x0 x1 = some c) : Con l yX3_hasCanonOf (xws yX3_hasCanonOf cX3_hasCanonOf 3 (some .boolean)) rmX3_hasCanonOf [.ref (x0), .ref (x1)] G A σ (some (.int c)) σ := by
  refine x_start rfl (Nat.le_of_ble_eq_true rfl) (fun X _ _ _ C hE0 => ?_)
  have hE : ∀ r, c = r → xE1 X (some (.int r)) σ := fun r e => e ▸ hE0
  show V X (0, 0) σ 0 [(0, .ref (x0)), (1, .ref (x1))] []
  unfold fX3_hasCanonOf at hf
  refine x_aload_n C dX3_hasCanonOf_0 1 rfl 0 rfl rfl ?_
  obtain ⟨v1, hv1, hf⟩ := x_bind hf
  refine x_getI C dX3_hasCanonOf_1 4 rfl hv1 cl3 rfl w458 ?_
  refine x_aload_n C dX3_hasCanonOf_4 5 rfl 1 rfl rfl ?_
  obtain ⟨v5, hv5, hf⟩ := x_bind hf
  refine x_getI C dX3_hasCanonOf_5 8 rfl hv5 cl3 rfl w458 ?_
  refine x_icmp_eq C dX3_hasCanonOf_8 13 (by decide) 11 rfl (fun hc => ?_) (fun hc => ?_)
  · have hf := (if_pos hc).symm.trans hf
    refine x_iconst C dX3_hasCanonOf_13 14 rfl 0 (by decide) ?_
    refine x_istore_n C dX3_hasCanonOf_14 15 rfl rfl rfl [(2, .int (0)), (0, .ref (x0)), (1, .ref (x1))] rfl ?_
    obtain ⟨b15, hb15, hf⟩ := x_bind hf
    refine x_lv [1, 2, 0] (lv' := [(0, .ref (x0)), (1, .ref (x1)), (2, .int (0))]) rfl ?_
    refine lpX3_hasCanonOf_15 C hb15 (fun s15 e15 => ?_) (fun s15 e15 => ?_)
    · subst e15
      try dsimp only at hf
      refine x_iconst C dX3_hasCanonOf_53 54 rfl 0 (by decide) ?_
      exact x_zret C rfl (hE _ (Option.some.inj hf).symm) dX3_hasCanonOf_54
    · subst e15
      try dsimp only at hf
      refine x_iconst C dX3_hasCanonOf_61 62 rfl 1 (by decide) ?_
      exact x_zret C rfl (hE _ (Option.some.inj hf).symm) dX3_hasCanonOf_62
  · have hf := (if_neg hc).symm.trans hf
    refine x_iconst C dX3_hasCanonOf_11 12 rfl 0 (by decide) ?_
    exact x_zret C rfl (hE _ (Option.some.inj hf).symm) dX3_hasCanonOf_12
theorem dX4_forgetNames_0 : decode cX4_forgetNames 0 = .ok (.aload_n 0, 1) := by decide +kernel
theorem dX4_forgetNames_1 : decode cX4_forgetNames 1 = .ok (.getfield 9, 3) := by decide +kernel
theorem dX4_forgetNames_4 : decode cX4_forgetNames 4 = .ok (.iconst (-1), 1) := by decide +kernel
theorem dX4_forgetNames_5 : decode cX4_forgetNames 5 = .ok (.invokestatic 42, 3) := by decide +kernel
theorem dX4_forgetNames_8 : decode cX4_forgetNames 8 = .ok (.aload_n 0, 1) := by decide +kernel
theorem dX4_forgetNames_9 : decode cX4_forgetNames 9 = .ok (.iconst 0, 1) := by decide +kernel
theorem dX4_forgetNames_10 : decode cX4_forgetNames 10 = .ok (.putfield 15, 3) := by decide +kernel
theorem dX4_forgetNames_13 : decode cX4_forgetNames 13 = .ok (.return_, 1) := by decide +kernel
abbrev rmX4_forgetNames : Room := { frames := 1, cells := 0, slots := 0, locals := 23 }
noncomputable def fX4_forgetNames (σ : St) (x0 : Nat) : Option (St) :=
(gR σ x0 4 0).bind fun v1 =>
(fJ7_fill_53178 σ v1 (-1)).bind fun w5 =>
(wrF w5 x0 4 1 (.int (0))).bind fun σ10 =>
some σ10
set_option maxHeartbeats 4000000 in
set_option maxRecDepth 100000 in
theorem cX4_forgetNamesc {l : Launch} {G : xG} {A : Nat → Prop} {σ : St} {x0 : Nat} {c : St} (hf : fX4_forgetNames σ x0 = some c) : Con l yX4_forgetNames (xws yX4_forgetNames cX4_forgetNames 1 none) rmX4_forgetNames [.ref (x0)] G A σ none c := by
  refine x_start rfl (Nat.le_of_ble_eq_true rfl) (fun X _ _ _ C hE0 => ?_)
  have hE : ∀ r, c = r → xE1 X none r := fun r e => e ▸ hE0
  show V X (0, 0) σ 0 [(0, .ref (x0))] []
  unfold fX4_forgetNames at hf
  refine x_aload_n C dX4_forgetNames_0 1 rfl 0 rfl rfl ?_
  obtain ⟨v1, hv1, hf⟩ := x_bind hf
  refine x_getR C dX4_forgetNames_1 4 rfl hv1 cl4 rfl w436 ?_
  refine x_iconst C dX4_forgetNames_4 5 rfl (-1) (by decide) ?_
  obtain ⟨w5, hw5, hf⟩ := x_bind hf
  refine x_callSv C dX4_forgetNames_5 8 rfl (cJ7_fill_53178c hw5) kJ7_fill_53178 ksJ7_fill_53178 w1339 ⟨rfl, rfl⟩ ⟨Nat.le_of_ble_eq_true rfl, Nat.le_of_ble_eq_true rfl⟩ ⟨Nat.zero_le _, Nat.zero_le _⟩ rfl rfl (Nat.le_of_ble_eq_true rfl) ?_
  refine x_aload_n C dX4_forgetNames_8 9 rfl 0 rfl rfl ?_
  refine x_iconst C dX4_forgetNames_9 10 rfl 0 (by decide) ?_
  obtain ⟨σ10, hσ10, hf⟩ := x_bind hf
  refine x_putX C dX4_forgetNames_10 13 rfl hσ10 cl4 rfl w437 rfl rfl rfl ?_
  exact x_vret C (hE _ (Option.some.inj hf).symm) dX4_forgetNames_13
theorem dX4_orderByNumbers_0 : decode cX4_orderByNumbers 0 = .ok (.iconst 0, 1) := by decide +kernel
theorem dX4_orderByNumbers_1 : decode cX4_orderByNumbers 1 = .ok (.istore 4, 2) := by decide +kernel
theorem dX4_orderByNumbers_3 : decode cX4_orderByNumbers 3 = .ok (.iload 4, 2) := by decide +kernel
theorem dX4_orderByNumbers_5 : decode cX4_orderByNumbers 5 = .ok (.lload_n 0, 1) := by decide +kernel
theorem dX4_orderByNumbers_6 : decode cX4_orderByNumbers 6 = .ok (.invokestatic 48, 3) := by decide +kernel
theorem dX4_orderByNumbers_9 : decode cX4_orderByNumbers 9 = .ok (.if_icmp .ge 34, 3) := by decide +kernel
theorem dX4_orderByNumbers_12 : decode cX4_orderByNumbers 12 = .ok (.lload_n 0, 1) := by decide +kernel
theorem dX4_orderByNumbers_13 : decode cX4_orderByNumbers 13 = .ok (.iload 4, 2) := by decide +kernel
theorem dX4_orderByNumbers_15 : decode cX4_orderByNumbers 15 = .ok (.invokestatic 52, 3) := by decide +kernel
theorem dX4_orderByNumbers_18 : decode cX4_orderByNumbers 18 = .ok (.lload_n 2, 1) := by decide +kernel
theorem dX4_orderByNumbers_19 : decode cX4_orderByNumbers 19 = .ok (.iload 4, 2) := by decide +kernel
theorem dX4_orderByNumbers_21 : decode cX4_orderByNumbers 21 = .ok (.invokestatic 52, 3) := by decide +kernel
theorem dX4_orderByNumbers_24 : decode cX4_orderByNumbers 24 = .ok (.invokestatic 60, 3) := by decide +kernel
theorem dX4_orderByNumbers_27 : decode cX4_orderByNumbers 27 = .ok (.istore 5, 2) := by decide +kernel
theorem dX4_orderByNumbers_29 : decode cX4_orderByNumbers 29 = .ok (.iload 5, 2) := by decide +kernel
theorem dX4_orderByNumbers_31 : decode cX4_orderByNumbers 31 = .ok (.ifCond .eq 6, 3) := by decide +kernel
theorem dX4_orderByNumbers_34 : decode cX4_orderByNumbers 34 = .ok (.iload 5, 2) := by decide +kernel
theorem dX4_orderByNumbers_36 : decode cX4_orderByNumbers 36 = .ok (.ireturn, 1) := by decide +kernel
theorem dX4_orderByNumbers_37 : decode cX4_orderByNumbers 37 = .ok (.iinc 4 1, 3) := by decide +kernel
theorem dX4_orderByNumbers_40 : decode cX4_orderByNumbers 40 = .ok (.goto (-37), 3) := by decide +kernel
theorem dX4_orderByNumbers_43 : decode cX4_orderByNumbers 43 = .ok (.iconst 0, 1) := by decide +kernel
theorem dX4_orderByNumbers_44 : decode cX4_orderByNumbers 44 = .ok (.ireturn, 1) := by decide +kernel
abbrev rmX4_orderByNumbers : Room := { frames := 1, cells := 0, slots := 0, locals := 22 }
noncomputable def fLX4_orderByNumbers_3 (x0 : Int64) (x2 : Int64) (a : Int32) : Option ((Int32) ⊕ ((Int32) ⊕ (Unit))) :=
(fX10_length x0).bind fun w6 =>
if w6 ≤ a then
(some (Sum.inr (Sum.inr ())))
else
((fX10_letterOf x0 a).bind fun w15 =>
(fX10_letterOf x2 a).bind fun w21 =>
(fJ6_compare_7cf53 w15 w21).bind fun w24 =>
if w24 = 0 then
(xlet (a + 1) fun v37 =>
some (Sum.inl v37))
else
(some (Sum.inr (Sum.inl w24))))
set_option maxHeartbeats 4000000 in
set_option maxRecDepth 100000 in
theorem lpX4_orderByNumbers_3 {X : xX} {σ : St} {x0 : Int64} {x2 : Int64}  {a0 : Int32} {b : (Int32) ⊕ (Unit)} (C : Ok X cX4_orderByNumbers 6 RX4 rmX4_orderByNumbers (some .int)) (hb : iterP (fLX4_orderByNumbers_3 x0 x2) a0 = some b) (hy0 : ∀ s, b = (Sum.inl s) → V X (0, 0) σ 34 [(5, .int (s))] []) (hy1 : ∀ s, b = (Sum.inr s) → V X (0, 0) σ 43 [] []) : V X (0, 0) σ 3 [(0, .long (x0)), (2, .long (x2)), (4, .int (a0))] [] := by
  obtain ⟨n, hn⟩ := iterP_some hb
  refine x_loop (P := fun a => V X (0, 0) σ 3 [(0, .long (x0)), (2, .long (x2)), (4, .int (a))] []) ?_ n a0 hn
  intro a c hf hK hxx
  have hx0 : ∀ s, c = Sum.inr (Sum.inl s) → V X (0, 0) σ 34 [(5, .int (s))] [] := fun s e => hy0 s (hxx _ e).symm
  have hx1 : ∀ s, c = Sum.inr (Sum.inr s) → V X (0, 0) σ 43 [] [] := fun s e => hy1 s (hxx _ e).symm
  unfold fLX4_orderByNumbers_3 at hf
  refine x_iload C dX4_orderByNumbers_3 5 rfl 2 rfl ?_
  refine x_lload_n C dX4_orderByNumbers_5 6 rfl 0 rfl rfl ?_
  obtain ⟨w6, hw6, hf⟩ := x_bind hf
  refine x_callSi C dX4_orderByNumbers_6 9 rfl (cX10_lengthc hw6) kX10_length ksX10_length w1344 ⟨rfl, rfl⟩ ⟨Nat.le_of_ble_eq_true rfl, Nat.le_of_ble_eq_true rfl⟩ ⟨Nat.zero_le _, Nat.zero_le _⟩ rfl rfl (Nat.le_of_ble_eq_true rfl) ?_
  refine x_icmp_ge C dX4_orderByNumbers_9 43 (by decide) 12 rfl (fun hc => ?_) (fun hc => ?_)
  · have hf := (if_pos hc).symm.trans hf
    refine x_lv [] (lv' := []) rfl ?_
    exact hx1 _ (Option.some.inj hf).symm
  · have hf := (if_neg hc).symm.trans hf
    refine x_lload_n C dX4_orderByNumbers_12 13 rfl 0 rfl rfl ?_
    refine x_iload C dX4_orderByNumbers_13 15 rfl 2 rfl ?_
    obtain ⟨w15, hw15, hf⟩ := x_bind hf
    refine x_callSi C dX4_orderByNumbers_15 18 rfl (cX10_letterOfc hw15) kX10_letterOf ksX10_letterOf w1345 ⟨rfl, rfl⟩ ⟨Nat.le_of_ble_eq_true rfl, Nat.le_of_ble_eq_true rfl⟩ ⟨Nat.zero_le _, Nat.zero_le _⟩ rfl rfl (Nat.le_of_ble_eq_true rfl) ?_
    refine x_lload_n C dX4_orderByNumbers_18 19 rfl 1 rfl rfl ?_
    refine x_iload C dX4_orderByNumbers_19 21 rfl 2 rfl ?_
    obtain ⟨w21, hw21, hf⟩ := x_bind hf
    refine x_callSi C dX4_orderByNumbers_21 24 rfl (cX10_letterOfc hw21) kX10_letterOf ksX10_letterOf w1345 ⟨rfl, rfl⟩ ⟨Nat.le_of_ble_eq_true rfl, Nat.le_of_ble_eq_true rfl⟩ ⟨Nat.zero_le _, Nat.zero_le _⟩ rfl rfl (Nat.le_of_ble_eq_true rfl) ?_
    obtain ⟨w24, hw24, hf⟩ := x_bind hf
    refine x_callSi C dX4_orderByNumbers_24 27 rfl (cJ6_compare_7cf53c hw24) kJ6_compare_7cf53 ksJ6_compare_7cf53 w1354 ⟨rfl, rfl⟩ ⟨Nat.le_of_ble_eq_true rfl, Nat.le_of_ble_eq_true rfl⟩ ⟨Nat.zero_le _, Nat.zero_le _⟩ rfl rfl (Nat.le_of_ble_eq_true rfl) ?_
    refine x_istore C dX4_orderByNumbers_27 29 rfl rfl [(5, .int (w24)), (0, .long (x0)), (2, .long (x2)), (4, .int (a))] rfl ?_
    refine x_iload C dX4_orderByNumbers_29 31 rfl 0 rfl ?_
    refine x_if_eq C dX4_orderByNumbers_31 37 (by decide) 34 rfl (fun hc => ?_) (fun hc => ?_)
    · have hf := (if_pos hc).symm.trans hf
      obtain ⟨v37, ev37, hf⟩ := xlet_some hf
      refine x_iinc C dX4_orderByNumbers_37 40 rfl 3 rfl v37 ev37 rfl [(4, .int (v37)), (5, .int (w24)), (0, .long (x0)), (2, .long (x2))] rfl ?_
      refine x_goto C dX4_orderByNumbers_40 3 (by decide) ?_
      refine x_lv [2, 3, 0] (lv' := [(0, .long (x0)), (2, .long (x2)), (4, .int (v37))]) rfl ?_
      exact hK _ (Option.some.inj hf).symm
    · have hf := (if_neg hc).symm.trans hf
      refine x_lv [0] (lv' := [(5, .int (w24))]) rfl ?_
      exact hx0 _ (Option.some.inj hf).symm
noncomputable def fX4_orderByNumbers (x0 : Int64) (x2 : Int64) : Option (Int32) :=
(iterP (fLX4_orderByNumbers_3 x0 x2) 0).bind fun b3 =>
(match b3 with
| .inl s3 =>
some s3
| .inr s3 =>
some 0)
set_option maxHeartbeats 4000000 in
set_option maxRecDepth 100000 in
theorem cX4_orderByNumbersc {l : Launch} {G : xG} {A : Nat → Prop} {σ : St} {x0 : Int64} {x2 : Int64} {c : Int32} (hf : fX4_orderByNumbers x0 x2 = some c) : Con l yX4_orderByNumbers (xws yX4_orderByNumbers cX4_orderByNumbers 6 (some .int)) rmX4_orderByNumbers [.long (x0), .long (x2)] G A σ (some (.int c)) σ := by
  refine x_start rfl (Nat.le_of_ble_eq_true rfl) (fun X _ _ _ C hE0 => ?_)
  have hE : ∀ r, c = r → xE1 X (some (.int r)) σ := fun r e => e ▸ hE0
  show V X (0, 0) σ 0 [(0, .long (x0)), (2, .long (x2))] []
  unfold fX4_orderByNumbers at hf
  refine x_iconst C dX4_orderByNumbers_0 1 rfl 0 (by decide) ?_
  refine x_istore C dX4_orderByNumbers_1 3 rfl rfl [(4, .int (0)), (0, .long (x0)), (2, .long (x2))] rfl ?_
  obtain ⟨b3, hb3, hf⟩ := x_bind hf
  refine x_lv [1, 2, 0] (lv' := [(0, .long (x0)), (2, .long (x2)), (4, .int (0))]) rfl ?_
  refine lpX4_orderByNumbers_3 C hb3 (fun s3 e3 => ?_) (fun s3 e3 => ?_)
  · subst e3
    try dsimp only at hf
    refine x_iload C dX4_orderByNumbers_34 36 rfl 0 rfl ?_
    exact x_iret C (hE _ (Option.some.inj hf).symm) dX4_orderByNumbers_36
  · subst e3
    try dsimp only at hf
    refine x_iconst C dX4_orderByNumbers_43 44 rfl 0 (by decide) ?_
    exact x_iret C (hE _ (Option.some.inj hf).symm) dX4_orderByNumbers_44
theorem dX4_rename_0 : decode cX4_rename 0 = .ok (.lconst 0, 1) := by decide +kernel
theorem dX4_rename_1 : decode cX4_rename 1 = .ok (.lstore_n 3, 1) := by decide +kernel
theorem dX4_rename_2 : decode cX4_rename 2 = .ok (.iconst 0, 1) := by decide +kernel
theorem dX4_rename_3 : decode cX4_rename 3 = .ok (.istore 5, 2) := by decide +kernel
theorem dX4_rename_5 : decode cX4_rename 5 = .ok (.iload 5, 2) := by decide +kernel
theorem dX4_rename_7 : decode cX4_rename 7 = .ok (.lload_n 1, 1) := by decide +kernel
theorem dX4_rename_8 : decode cX4_rename 8 = .ok (.invokestatic 48, 3) := by decide +kernel
theorem dX4_rename_11 : decode cX4_rename 11 = .ok (.if_icmp .ge 61, 3) := by decide +kernel
theorem dX4_rename_14 : decode cX4_rename 14 = .ok (.lload_n 1, 1) := by decide +kernel
theorem dX4_rename_15 : decode cX4_rename 15 = .ok (.iload 5, 2) := by decide +kernel
theorem dX4_rename_17 : decode cX4_rename 17 = .ok (.invokestatic 52, 3) := by decide +kernel
theorem dX4_rename_20 : decode cX4_rename 20 = .ok (.istore 6, 2) := by decide +kernel
theorem dX4_rename_22 : decode cX4_rename 22 = .ok (.aload_n 0, 1) := by decide +kernel
theorem dX4_rename_23 : decode cX4_rename 23 = .ok (.getfield 9, 3) := by decide +kernel
theorem dX4_rename_26 : decode cX4_rename 26 = .ok (.iload 6, 2) := by decide +kernel
theorem dX4_rename_28 : decode cX4_rename 28 = .ok (.iaload, 1) := by decide +kernel
theorem dX4_rename_29 : decode cX4_rename 29 = .ok (.iconst (-1), 1) := by decide +kernel
theorem dX4_rename_30 : decode cX4_rename 30 = .ok (.if_icmp .ne 24, 3) := by decide +kernel
theorem dX4_rename_33 : decode cX4_rename 33 = .ok (.aload_n 0, 1) := by decide +kernel
theorem dX4_rename_34 : decode cX4_rename 34 = .ok (.getfield 9, 3) := by decide +kernel
theorem dX4_rename_37 : decode cX4_rename 37 = .ok (.iload 6, 2) := by decide +kernel
theorem dX4_rename_39 : decode cX4_rename 39 = .ok (.aload_n 0, 1) := by decide +kernel
theorem dX4_rename_40 : decode cX4_rename 40 = .ok (.getfield 15, 3) := by decide +kernel
theorem dX4_rename_43 : decode cX4_rename 43 = .ok (.iastore, 1) := by decide +kernel
theorem dX4_rename_44 : decode cX4_rename 44 = .ok (.aload_n 0, 1) := by decide +kernel
theorem dX4_rename_45 : decode cX4_rename 45 = .ok (.dup, 1) := by decide +kernel
theorem dX4_rename_46 : decode cX4_rename 46 = .ok (.getfield 15, 3) := by decide +kernel
theorem dX4_rename_49 : decode cX4_rename 49 = .ok (.iconst 1, 1) := by decide +kernel
theorem dX4_rename_50 : decode cX4_rename 50 = .ok (.iadd, 1) := by decide +kernel
theorem dX4_rename_51 : decode cX4_rename 51 = .ok (.putfield 15, 3) := by decide +kernel
theorem dX4_rename_54 : decode cX4_rename 54 = .ok (.lload_n 3, 1) := by decide +kernel
theorem dX4_rename_55 : decode cX4_rename 55 = .ok (.aload_n 0, 1) := by decide +kernel
theorem dX4_rename_56 : decode cX4_rename 56 = .ok (.getfield 9, 3) := by decide +kernel
theorem dX4_rename_59 : decode cX4_rename 59 = .ok (.iload 6, 2) := by decide +kernel
theorem dX4_rename_61 : decode cX4_rename 61 = .ok (.iaload, 1) := by decide +kernel
theorem dX4_rename_62 : decode cX4_rename 62 = .ok (.invokestatic 56, 3) := by decide +kernel
theorem dX4_rename_65 : decode cX4_rename 65 = .ok (.lstore_n 3, 1) := by decide +kernel
theorem dX4_rename_66 : decode cX4_rename 66 = .ok (.iinc 5 1, 3) := by decide +kernel
theorem dX4_rename_69 : decode cX4_rename 69 = .ok (.goto (-64), 3) := by decide +kernel
theorem dX4_rename_72 : decode cX4_rename 72 = .ok (.lload_n 3, 1) := by decide +kernel
theorem dX4_rename_73 : decode cX4_rename 73 = .ok (.lreturn, 1) := by decide +kernel
abbrev rmX4_rename : Room := { frames := 1, cells := 0, slots := 0, locals := 23 }
noncomputable def fJX4_rename_5_54 (σ : St) (x0 : Nat) (x1 : Int64) (x3 : Int64) (x5 : Int32) (x6 : Int32)  : Option ((Int64 × Int32 × St) ⊕ (Int64 × St)) :=
(gR σ x0 4 0).bind fun v56 =>
(aI σ v56 0 x6).bind fun v61 =>
(fX10_longer x3 v61).bind fun w62 =>
xlet (x5 + 1) fun v66 =>
some (Sum.inl (w62, v66, σ))
set_option maxHeartbeats 4000000 in
set_option maxRecDepth 100000 in
theorem jnX4_rename_5_54 {X : xX} {σ : St} {x0 : Nat} {x1 : Int64} {x3 : Int64} {x5 : Int32} {x6 : Int32}   {c : (Int64 × Int32 × St) ⊕ (Int64 × St)} (C : Ok X cX4_rename 7 RX4 rmX4_rename (some .long)) (hf : fJX4_rename_5_54 σ x0 x1 x3 x5 x6  = some c) (hK : ∀ a', c = Sum.inl a' → V X (0, 0) a'.2.2 5 [(0, .ref (x0)), (1, .long (x1)), (3, .long (a'.1)), (5, .int (a'.2.1))] []) (hx0 : ∀ s, c = Sum.inr s → V X (0, 0) s.2 72 [(3, .long (s.1))] []) : V X (0, 0) σ 54 [(0, .ref (x0)), (1, .long (x1)), (3, .long (x3)), (5, .int (x5)), (6, .int (x6))] [] := by
  unfold fJX4_rename_5_54 at hf
  refine x_lload_n C dX4_rename_54 55 rfl 2 rfl rfl ?_
  refine x_aload_n C dX4_rename_55 56 rfl 0 rfl rfl ?_
  obtain ⟨v56, hv56, hf⟩ := x_bind hf
  refine x_getR C dX4_rename_56 59 rfl hv56 cl4 rfl w436 ?_
  refine x_iload C dX4_rename_59 61 rfl 4 rfl ?_
  obtain ⟨v61, hv61, hf⟩ := x_bind hf
  refine x_iaload C dX4_rename_61 62 rfl hv61 ?_
  obtain ⟨w62, hw62, hf⟩ := x_bind hf
  refine x_callSl C dX4_rename_62 65 rfl (cX10_longerc hw62) kX10_longer ksX10_longer w1346 ⟨rfl, rfl⟩ ⟨Nat.le_of_ble_eq_true rfl, Nat.le_of_ble_eq_true rfl⟩ ⟨Nat.zero_le _, Nat.zero_le _⟩ rfl rfl (Nat.le_of_ble_eq_true rfl) ?_
  refine x_lstore_n C dX4_rename_65 66 rfl rfl rfl [(3, .long (w62)), (0, .ref (x0)), (1, .long (x1)), (5, .int (x5)), (6, .int (x6))] rfl ?_
  obtain ⟨v66, ev66, hf⟩ := xlet_some hf
  refine x_iinc C dX4_rename_66 69 rfl 3 rfl v66 ev66 rfl [(5, .int (v66)), (3, .long (w62)), (0, .ref (x0)), (1, .long (x1)), (6, .int (x6))] rfl ?_
  refine x_goto C dX4_rename_69 5 (by decide) ?_
  refine x_lv [2, 3, 1, 0] (lv' := [(0, .ref (x0)), (1, .long (x1)), (3, .long (w62)), (5, .int (v66))]) rfl ?_
  exact hK _ (Option.some.inj hf).symm
noncomputable def fLX4_rename_5 (x0 : Nat) (x1 : Int64) (a : Int64 × Int32 × St) : Option ((Int64 × Int32 × St) ⊕ (Int64 × St)) :=
(fX10_length x1).bind fun w8 =>
if w8 ≤ a.2.1 then
(some (Sum.inr (a.1, a.2.2)))
else
((fX10_letterOf x1 a.2.1).bind fun w17 =>
(gR a.2.2 x0 4 0).bind fun v23 =>
(aI a.2.2 v23 0 w17).bind fun v28 =>
if v28 = (((-1) : Int32)) then
((gR a.2.2 x0 4 0).bind fun v34 =>
(gI a.2.2 x0 4 1).bind fun v40 =>
(sI a.2.2 v34 w17 v40).bind fun σ43 =>
(gI σ43 x0 4 1).bind fun v46 =>
(wrF σ43 x0 4 1 (.int (v46 + 1))).bind fun σ51 =>
fJX4_rename_5_54 σ51 x0 x1 a.1 a.2.1 w17)
else
(fJX4_rename_5_54 a.2.2 x0 x1 a.1 a.2.1 w17))
set_option maxHeartbeats 4000000 in
set_option maxRecDepth 100000 in
theorem lpX4_rename_5 {X : xX} {x0 : Nat} {x1 : Int64}  {a0 : Int64 × Int32 × St} {b : Int64 × St} (C : Ok X cX4_rename 7 RX4 rmX4_rename (some .long)) (hb : iterP (fLX4_rename_5 x0 x1) a0 = some b) (hy0 : ∀ s, b = s → V X (0, 0) s.2 72 [(3, .long (s.1))] []) : V X (0, 0) a0.2.2 5 [(0, .ref (x0)), (1, .long (x1)), (3, .long (a0.1)), (5, .int (a0.2.1))] [] := by
  obtain ⟨n, hn⟩ := iterP_some hb
  refine x_loop (P := fun a => V X (0, 0) a.2.2 5 [(0, .ref (x0)), (1, .long (x1)), (3, .long (a.1)), (5, .int (a.2.1))] []) ?_ n a0 hn
  intro a c hf hK hxx
  have hx0 : ∀ s, c = Sum.inr s → V X (0, 0) s.2 72 [(3, .long (s.1))] [] := fun s e => hy0 s (hxx _ e).symm
  unfold fLX4_rename_5 at hf
  refine x_iload C dX4_rename_5 7 rfl 3 rfl ?_
  refine x_lload_n C dX4_rename_7 8 rfl 1 rfl rfl ?_
  obtain ⟨w8, hw8, hf⟩ := x_bind hf
  refine x_callSi C dX4_rename_8 11 rfl (cX10_lengthc hw8) kX10_length ksX10_length w1344 ⟨rfl, rfl⟩ ⟨Nat.le_of_ble_eq_true rfl, Nat.le_of_ble_eq_true rfl⟩ ⟨Nat.zero_le _, Nat.zero_le _⟩ rfl rfl (Nat.le_of_ble_eq_true rfl) ?_
  refine x_icmp_ge C dX4_rename_11 72 (by decide) 14 rfl (fun hc => ?_) (fun hc => ?_)
  · have hf := (if_pos hc).symm.trans hf
    refine x_lv [2] (lv' := [(3, .long (a.1))]) rfl ?_
    exact hx0 _ (Option.some.inj hf).symm
  · have hf := (if_neg hc).symm.trans hf
    refine x_lload_n C dX4_rename_14 15 rfl 1 rfl rfl ?_
    refine x_iload C dX4_rename_15 17 rfl 3 rfl ?_
    obtain ⟨w17, hw17, hf⟩ := x_bind hf
    refine x_callSi C dX4_rename_17 20 rfl (cX10_letterOfc hw17) kX10_letterOf ksX10_letterOf w1345 ⟨rfl, rfl⟩ ⟨Nat.le_of_ble_eq_true rfl, Nat.le_of_ble_eq_true rfl⟩ ⟨Nat.zero_le _, Nat.zero_le _⟩ rfl rfl (Nat.le_of_ble_eq_true rfl) ?_
    refine x_istore C dX4_rename_20 22 rfl rfl [(6, .int (w17)), (0, .ref (x0)), (1, .long (x1)), (3, .long (a.1)), (5, .int (a.2.1))] rfl ?_
    refine x_aload_n C dX4_rename_22 23 rfl 1 rfl rfl ?_
    obtain ⟨v23, hv23, hf⟩ := x_bind hf
    refine x_getR C dX4_rename_23 26 rfl hv23 cl4 rfl w436 ?_
    refine x_iload C dX4_rename_26 28 rfl 0 rfl ?_
    obtain ⟨v28, hv28, hf⟩ := x_bind hf
    refine x_iaload C dX4_rename_28 29 rfl hv28 ?_
    refine x_iconst C dX4_rename_29 30 rfl (-1) (by decide) ?_
    refine x_icmp_ne C dX4_rename_30 54 (by decide) 33 rfl (fun hc => ?_) (fun hc => ?_)
    · have hf := (if_neg hc).symm.trans hf
      refine x_lv [1, 2, 3, 4, 0] (lv' := [(0, .ref (x0)), (1, .long (x1)), (3, .long (a.1)), (5, .int (a.2.1)), (6, .int (w17))]) rfl ?_
      exact jnX4_rename_5_54 C hf hK hx0
    · have hf := (if_pos hc).symm.trans hf
      refine x_aload_n C dX4_rename_33 34 rfl 1 rfl rfl ?_
      obtain ⟨v34, hv34, hf⟩ := x_bind hf
      refine x_getR C dX4_rename_34 37 rfl hv34 cl4 rfl w436 ?_
      refine x_iload C dX4_rename_37 39 rfl 0 rfl ?_
      refine x_aload_n C dX4_rename_39 40 rfl 1 rfl rfl ?_
      obtain ⟨v40, hv40, hf⟩ := x_bind hf
      refine x_getI C dX4_rename_40 43 rfl hv40 cl4 rfl w437 ?_
      obtain ⟨σ43, hσ43, hf⟩ := x_bind hf
      refine x_iastore C dX4_rename_43 44 rfl hσ43 ?_
      refine x_aload_n C dX4_rename_44 45 rfl 1 rfl rfl ?_
      refine x_dup C dX4_rename_45 46 rfl rfl ?_
      obtain ⟨v46, hv46, hf⟩ := x_bind hf
      refine x_getI C dX4_rename_46 49 rfl hv46 cl4 rfl w437 ?_
      refine x_iconst C dX4_rename_49 50 rfl 1 (by decide) ?_
      refine x_iadd C dX4_rename_50 51 rfl ?_
      obtain ⟨σ51, hσ51, hf⟩ := x_bind hf
      refine x_putX C dX4_rename_51 54 rfl hσ51 cl4 rfl w437 rfl rfl rfl ?_
      refine x_lv [1, 2, 3, 4, 0] (lv' := [(0, .ref (x0)), (1, .long (x1)), (3, .long (a.1)), (5, .int (a.2.1)), (6, .int (w17))]) rfl ?_
      exact jnX4_rename_5_54 C hf hK hx0
noncomputable def fX4_rename (σ : St) (x0 : Nat) (x1 : Int64) : Option ((Int64 × St)) :=
(iterP (fLX4_rename_5 x0 x1) (0, 0, σ)).bind fun b5 =>
some (b5.1, b5.2)
set_option maxHeartbeats 4000000 in
set_option maxRecDepth 100000 in
theorem cX4_renamec {l : Launch} {G : xG} {A : Nat → Prop} {σ : St} {x0 : Nat} {x1 : Int64} {c : (Int64 × St)} (hf : fX4_rename σ x0 x1 = some c) : Con l yX4_rename (xws yX4_rename cX4_rename 7 (some .long)) rmX4_rename [.ref (x0), .long (x1)] G A σ (some (.long c.1)) c.2 := by
  refine x_start rfl (Nat.le_of_ble_eq_true rfl) (fun X _ _ _ C hE0 => ?_)
  have hE : ∀ r, c = r → xE1 X (some (.long r.1)) r.2 := fun r e => e ▸ hE0
  show V X (0, 0) σ 0 [(0, .ref (x0)), (1, .long (x1))] []
  unfold fX4_rename at hf
  refine x_lconst C dX4_rename_0 1 rfl 0 (by decide) ?_
  refine x_lstore_n C dX4_rename_1 2 rfl rfl rfl [(3, .long (0)), (0, .ref (x0)), (1, .long (x1))] rfl ?_
  refine x_iconst C dX4_rename_2 3 rfl 0 (by decide) ?_
  refine x_istore C dX4_rename_3 5 rfl rfl [(5, .int (0)), (3, .long (0)), (0, .ref (x0)), (1, .long (x1))] rfl ?_
  obtain ⟨b5, hb5, hf⟩ := x_bind hf
  refine x_lv [2, 3, 1, 0] (lv' := [(0, .ref (x0)), (1, .long (x1)), (3, .long (0)), (5, .int (0))]) rfl ?_
  refine lpX4_rename_5 C hb5 (fun s5 e5 => ?_)
  subst e5
  refine x_lload_n C dX4_rename_72 73 rfl 0 rfl rfl ?_
  exact x_lret C (hE _ (Option.some.inj hf).symm) dX4_rename_73
theorem dX4_findOf_0 : decode cX4_findOf 0 = .ok (.aload_n 0, 1) := by decide +kernel
theorem dX4_findOf_1 : decode cX4_findOf 1 = .ok (.invokevirtual 26, 3) := by decide +kernel
theorem dX4_findOf_4 : decode cX4_findOf 4 = .ok (.aload_n 0, 1) := by decide +kernel
theorem dX4_findOf_5 : decode cX4_findOf 5 = .ok (.lload_n 1, 1) := by decide +kernel
theorem dX4_findOf_6 : decode cX4_findOf 6 = .ok (.invokevirtual 29, 3) := by decide +kernel
theorem dX4_findOf_9 : decode cX4_findOf 9 = .ok (.lstore 5, 2) := by decide +kernel
theorem dX4_findOf_11 : decode cX4_findOf 11 = .ok (.aload_n 0, 1) := by decide +kernel
theorem dX4_findOf_12 : decode cX4_findOf 12 = .ok (.lload_n 3, 1) := by decide +kernel
theorem dX4_findOf_13 : decode cX4_findOf 13 = .ok (.invokevirtual 29, 3) := by decide +kernel
theorem dX4_findOf_16 : decode cX4_findOf 16 = .ok (.lstore 7, 2) := by decide +kernel
theorem dX4_findOf_18 : decode cX4_findOf 18 = .ok (.aload_n 0, 1) := by decide +kernel
theorem dX4_findOf_19 : decode cX4_findOf 19 = .ok (.invokevirtual 26, 3) := by decide +kernel
theorem dX4_findOf_22 : decode cX4_findOf 22 = .ok (.aload_n 0, 1) := by decide +kernel
theorem dX4_findOf_23 : decode cX4_findOf 23 = .ok (.aload_n 0, 1) := by decide +kernel
theorem dX4_findOf_24 : decode cX4_findOf 24 = .ok (.lload_n 1, 1) := by decide +kernel
theorem dX4_findOf_25 : decode cX4_findOf 25 = .ok (.invokestatic 33, 3) := by decide +kernel
theorem dX4_findOf_28 : decode cX4_findOf 28 = .ok (.invokevirtual 29, 3) := by decide +kernel
theorem dX4_findOf_31 : decode cX4_findOf 31 = .ok (.putfield 19, 3) := by decide +kernel
theorem dX4_findOf_34 : decode cX4_findOf 34 = .ok (.aload_n 0, 1) := by decide +kernel
theorem dX4_findOf_35 : decode cX4_findOf 35 = .ok (.aload_n 0, 1) := by decide +kernel
theorem dX4_findOf_36 : decode cX4_findOf 36 = .ok (.lload_n 3, 1) := by decide +kernel
theorem dX4_findOf_37 : decode cX4_findOf 37 = .ok (.invokestatic 33, 3) := by decide +kernel
theorem dX4_findOf_40 : decode cX4_findOf 40 = .ok (.invokevirtual 29, 3) := by decide +kernel
theorem dX4_findOf_43 : decode cX4_findOf 43 = .ok (.putfield 23, 3) := by decide +kernel
theorem dX4_findOf_46 : decode cX4_findOf 46 = .ok (.lload 5, 2) := by decide +kernel
theorem dX4_findOf_48 : decode cX4_findOf 48 = .ok (.aload_n 0, 1) := by decide +kernel
theorem dX4_findOf_49 : decode cX4_findOf 49 = .ok (.getfield 19, 3) := by decide +kernel
theorem dX4_findOf_52 : decode cX4_findOf 52 = .ok (.invokestatic 38, 3) := by decide +kernel
theorem dX4_findOf_55 : decode cX4_findOf 55 = .ok (.istore 9, 2) := by decide +kernel
theorem dX4_findOf_57 : decode cX4_findOf 57 = .ok (.iload 9, 2) := by decide +kernel
theorem dX4_findOf_59 : decode cX4_findOf 59 = .ok (.ifCond .lt 20, 3) := by decide +kernel
theorem dX4_findOf_62 : decode cX4_findOf 62 = .ok (.iload 9, 2) := by decide +kernel
theorem dX4_findOf_64 : decode cX4_findOf 64 = .ok (.ifCond .ne 27, 3) := by decide +kernel
theorem dX4_findOf_67 : decode cX4_findOf 67 = .ok (.lload 7, 2) := by decide +kernel
theorem dX4_findOf_69 : decode cX4_findOf 69 = .ok (.aload_n 0, 1) := by decide +kernel
theorem dX4_findOf_70 : decode cX4_findOf 70 = .ok (.getfield 23, 3) := by decide +kernel
theorem dX4_findOf_73 : decode cX4_findOf 73 = .ok (.invokestatic 38, 3) := by decide +kernel
theorem dX4_findOf_76 : decode cX4_findOf 76 = .ok (.ifCond .ge 15, 3) := by decide +kernel
theorem dX4_findOf_79 : decode cX4_findOf 79 = .ok (.aload_n 0, 1) := by decide +kernel
theorem dX4_findOf_80 : decode cX4_findOf 80 = .ok (.lload 5, 2) := by decide +kernel
theorem dX4_findOf_82 : decode cX4_findOf 82 = .ok (.putfield 19, 3) := by decide +kernel
theorem dX4_findOf_85 : decode cX4_findOf 85 = .ok (.aload_n 0, 1) := by decide +kernel
theorem dX4_findOf_86 : decode cX4_findOf 86 = .ok (.lload 7, 2) := by decide +kernel
theorem dX4_findOf_88 : decode cX4_findOf 88 = .ok (.putfield 23, 3) := by decide +kernel
theorem dX4_findOf_91 : decode cX4_findOf 91 = .ok (.return_, 1) := by decide +kernel
abbrev rmX4_findOf : Room := { frames := 2, cells := 0, slots := 0, locals := 49 }
noncomputable def fX4_findOf (σ : St) (x0 : Nat) (x1 : Int64) (x3 : Int64) : Option (St) :=
(isO σ x0 4).bind fun _ =>
(fX4_forgetNames σ x0).bind fun w1 =>
(isO w1 x0 4).bind fun _ =>
(fX4_rename w1 x0 x1).bind fun w6 =>
(isO w6.2 x0 4).bind fun _ =>
(fX4_rename w6.2 x0 x3).bind fun w13 =>
(isO w13.2 x0 4).bind fun _ =>
(fX4_forgetNames w13.2 x0).bind fun w19 =>
(fX10_backwards x1).bind fun w25 =>
(isO w19 x0 4).bind fun _ =>
(fX4_rename w19 x0 w25).bind fun w28 =>
(wrF w28.2 x0 4 2 (.long (w28.1))).bind fun σ31 =>
(fX10_backwards x3).bind fun w37 =>
(isO σ31 x0 4).bind fun _ =>
(fX4_rename σ31 x0 w37).bind fun w40 =>
(wrF w40.2 x0 4 3 (.long (w40.1))).bind fun σ43 =>
(gL σ43 x0 4 2).bind fun v49 =>
(fX4_orderByNumbers w6.1 v49).bind fun w52 =>
if w52 < 0 then
((wrF σ43 x0 4 2 (.long (w6.1))).bind fun σ82 =>
(wrF σ82 x0 4 3 (.long (w13.1))).bind fun σ88 =>
some σ88)
else
(if w52 = 0 then
((gL σ43 x0 4 3).bind fun v70 =>
(fX4_orderByNumbers w13.1 v70).bind fun w73 =>
if 0 ≤ w73 then
(some σ43)
else
((wrF σ43 x0 4 2 (.long (w6.1))).bind fun σ82 =>
(wrF σ82 x0 4 3 (.long (w13.1))).bind fun σ88 =>
some σ88))
else
(some σ43))
set_option maxHeartbeats 4000000 in
set_option maxRecDepth 100000 in
theorem cX4_findOfc {l : Launch} {G : xG} {A : Nat → Prop} {σ : St} {x0 : Nat} {x1 : Int64} {x3 : Int64} {c : St} (hf : fX4_findOf σ x0 x1 x3 = some c) : Con l yX4_findOf (xws yX4_findOf cX4_findOf 10 none) rmX4_findOf [.ref (x0), .long (x1), .long (x3)] G A σ none c := by
  refine x_start rfl (Nat.le_of_ble_eq_true rfl) (fun X _ _ _ C hE0 => ?_)
  have hE : ∀ r, c = r → xE1 X none r := fun r e => e ▸ hE0
  show V X (0, 0) σ 0 [(0, .ref (x0)), (1, .long (x1)), (3, .long (x3))] []
  unfold fX4_findOf at hf
  refine x_aload_n C dX4_findOf_0 1 rfl 0 rfl rfl ?_
  obtain ⟨o1, ho1, hf⟩ := x_bind hf
  obtain ⟨w1, hw1, hf⟩ := x_bind hf
  refine x_callVv C dX4_findOf_1 4 rfl ho1 cl4.1 rfl (cX4_forgetNamesc hw1) kX4_forgetNames kvX4_forgetNames w1335 ⟨rfl, rfl⟩ ⟨Nat.le_of_ble_eq_true rfl, Nat.le_of_ble_eq_true rfl⟩ ⟨Nat.zero_le _, Nat.zero_le _⟩ rfl rfl (Nat.le_of_ble_eq_true rfl) ?_
  refine x_aload_n C dX4_findOf_4 5 rfl 0 rfl rfl ?_
  refine x_lload_n C dX4_findOf_5 6 rfl 1 rfl rfl ?_
  obtain ⟨o6, ho6, hf⟩ := x_bind hf
  obtain ⟨w6, hw6, hf⟩ := x_bind hf
  refine x_callVl C dX4_findOf_6 9 rfl ho6 cl4.1 rfl (cX4_renamec hw6) kX4_rename kvX4_rename w1340 ⟨rfl, rfl⟩ ⟨Nat.le_of_ble_eq_true rfl, Nat.le_of_ble_eq_true rfl⟩ ⟨Nat.zero_le _, Nat.zero_le _⟩ rfl rfl (Nat.le_of_ble_eq_true rfl) ?_
  refine x_lstore C dX4_findOf_9 11 rfl rfl [(5, .long (w6.1)), (0, .ref (x0)), (1, .long (x1)), (3, .long (x3))] rfl ?_
  refine x_aload_n C dX4_findOf_11 12 rfl 1 rfl rfl ?_
  refine x_lload_n C dX4_findOf_12 13 rfl 3 rfl rfl ?_
  obtain ⟨o13, ho13, hf⟩ := x_bind hf
  obtain ⟨w13, hw13, hf⟩ := x_bind hf
  refine x_callVl C dX4_findOf_13 16 rfl ho13 cl4.1 rfl (cX4_renamec hw13) kX4_rename kvX4_rename w1340 ⟨rfl, rfl⟩ ⟨Nat.le_of_ble_eq_true rfl, Nat.le_of_ble_eq_true rfl⟩ ⟨Nat.zero_le _, Nat.zero_le _⟩ rfl rfl (Nat.le_of_ble_eq_true rfl) ?_
  refine x_lstore C dX4_findOf_16 18 rfl rfl [(7, .long (w13.1)), (5, .long (w6.1)), (0, .ref (x0)), (1, .long (x1)), (3, .long (x3))] rfl ?_
  refine x_aload_n C dX4_findOf_18 19 rfl 2 rfl rfl ?_
  obtain ⟨o19, ho19, hf⟩ := x_bind hf
  obtain ⟨w19, hw19, hf⟩ := x_bind hf
  refine x_callVv C dX4_findOf_19 22 rfl ho19 cl4.1 rfl (cX4_forgetNamesc hw19) kX4_forgetNames kvX4_forgetNames w1335 ⟨rfl, rfl⟩ ⟨Nat.le_of_ble_eq_true rfl, Nat.le_of_ble_eq_true rfl⟩ ⟨Nat.zero_le _, Nat.zero_le _⟩ rfl rfl (Nat.le_of_ble_eq_true rfl) ?_
  refine x_aload_n C dX4_findOf_22 23 rfl 2 rfl rfl ?_
  refine x_aload_n C dX4_findOf_23 24 rfl 2 rfl rfl ?_
  refine x_lload_n C dX4_findOf_24 25 rfl 3 rfl rfl ?_
  obtain ⟨w25, hw25, hf⟩ := x_bind hf
  refine x_callSl C dX4_findOf_25 28 rfl (cX10_backwardsc hw25) kX10_backwards ksX10_backwards w1347 ⟨rfl, rfl⟩ ⟨Nat.le_of_ble_eq_true rfl, Nat.le_of_ble_eq_true rfl⟩ ⟨Nat.zero_le _, Nat.zero_le _⟩ rfl rfl (Nat.le_of_ble_eq_true rfl) ?_
  obtain ⟨o28, ho28, hf⟩ := x_bind hf
  obtain ⟨w28, hw28, hf⟩ := x_bind hf
  refine x_callVl C dX4_findOf_28 31 rfl ho28 cl4.1 rfl (cX4_renamec hw28) kX4_rename kvX4_rename w1340 ⟨rfl, rfl⟩ ⟨Nat.le_of_ble_eq_true rfl, Nat.le_of_ble_eq_true rfl⟩ ⟨Nat.zero_le _, Nat.zero_le _⟩ rfl rfl (Nat.le_of_ble_eq_true rfl) ?_
  obtain ⟨σ31, hσ31, hf⟩ := x_bind hf
  refine x_putX C dX4_findOf_31 34 rfl hσ31 cl4 rfl w438 rfl rfl rfl ?_
  refine x_aload_n C dX4_findOf_34 35 rfl 2 rfl rfl ?_
  refine x_aload_n C dX4_findOf_35 36 rfl 2 rfl rfl ?_
  refine x_lload_n C dX4_findOf_36 37 rfl 4 rfl rfl ?_
  obtain ⟨w37, hw37, hf⟩ := x_bind hf
  refine x_callSl C dX4_findOf_37 40 rfl (cX10_backwardsc hw37) kX10_backwards ksX10_backwards w1347 ⟨rfl, rfl⟩ ⟨Nat.le_of_ble_eq_true rfl, Nat.le_of_ble_eq_true rfl⟩ ⟨Nat.zero_le _, Nat.zero_le _⟩ rfl rfl (Nat.le_of_ble_eq_true rfl) ?_
  obtain ⟨o40, ho40, hf⟩ := x_bind hf
  obtain ⟨w40, hw40, hf⟩ := x_bind hf
  refine x_callVl C dX4_findOf_40 43 rfl ho40 cl4.1 rfl (cX4_renamec hw40) kX4_rename kvX4_rename w1340 ⟨rfl, rfl⟩ ⟨Nat.le_of_ble_eq_true rfl, Nat.le_of_ble_eq_true rfl⟩ ⟨Nat.zero_le _, Nat.zero_le _⟩ rfl rfl (Nat.le_of_ble_eq_true rfl) ?_
  obtain ⟨σ43, hσ43, hf⟩ := x_bind hf
  refine x_putX C dX4_findOf_43 46 rfl hσ43 cl4 rfl w440 rfl rfl rfl ?_
  refine x_lload C dX4_findOf_46 48 rfl 1 rfl ?_
  refine x_aload_n C dX4_findOf_48 49 rfl 2 rfl rfl ?_
  obtain ⟨v49, hv49, hf⟩ := x_bind hf
  refine x_getL C dX4_findOf_49 52 rfl hv49 cl4 rfl w438 ?_
  obtain ⟨w52, hw52, hf⟩ := x_bind hf
  refine x_callSi C dX4_findOf_52 55 rfl (cX4_orderByNumbersc hw52) kX4_orderByNumbers ksX4_orderByNumbers w1351 ⟨rfl, rfl⟩ ⟨Nat.le_of_ble_eq_true rfl, Nat.le_of_ble_eq_true rfl⟩ ⟨Nat.zero_le _, Nat.zero_le _⟩ rfl rfl (Nat.le_of_ble_eq_true rfl) ?_
  refine x_istore C dX4_findOf_55 57 rfl rfl [(9, .int (w52)), (7, .long (w13.1)), (5, .long (w6.1)), (0, .ref (x0)), (1, .long (x1)), (3, .long (x3))] rfl ?_
  refine x_iload C dX4_findOf_57 59 rfl 0 rfl ?_
  refine x_if_lt C dX4_findOf_59 79 (by decide) 62 rfl (fun hc => ?_) (fun hc => ?_)
  · have hf := (if_pos hc).symm.trans hf
    refine x_aload_n C dX4_findOf_79 80 rfl 3 rfl rfl ?_
    refine x_lload C dX4_findOf_80 82 rfl 2 rfl ?_
    obtain ⟨σ82, hσ82, hf⟩ := x_bind hf
    refine x_putX C dX4_findOf_82 85 rfl hσ82 cl4 rfl w438 rfl rfl rfl ?_
    refine x_aload_n C dX4_findOf_85 86 rfl 3 rfl rfl ?_
    refine x_lload C dX4_findOf_86 88 rfl 1 rfl ?_
    obtain ⟨σ88, hσ88, hf⟩ := x_bind hf
    refine x_putX C dX4_findOf_88 91 rfl hσ88 cl4 rfl w440 rfl rfl rfl ?_
    exact x_vret C (hE _ (Option.some.inj hf).symm) dX4_findOf_91
  · have hf := (if_neg hc).symm.trans hf
    refine x_iload C dX4_findOf_62 64 rfl 0 rfl ?_
    refine x_if_ne C dX4_findOf_64 91 (by decide) 67 rfl (fun hc => ?_) (fun hc => ?_)
    · have hf := (if_neg hc).symm.trans hf
      exact x_vret C (hE _ (Option.some.inj hf).symm) dX4_findOf_91
    · have hf := (if_pos hc).symm.trans hf
      refine x_lload C dX4_findOf_67 69 rfl 1 rfl ?_
      refine x_aload_n C dX4_findOf_69 70 rfl 3 rfl rfl ?_
      obtain ⟨v70, hv70, hf⟩ := x_bind hf
      refine x_getL C dX4_findOf_70 73 rfl hv70 cl4 rfl w440 ?_
      obtain ⟨w73, hw73, hf⟩ := x_bind hf
      refine x_callSi C dX4_findOf_73 76 rfl (cX4_orderByNumbersc hw73) kX4_orderByNumbers ksX4_orderByNumbers w1351 ⟨rfl, rfl⟩ ⟨Nat.le_of_ble_eq_true rfl, Nat.le_of_ble_eq_true rfl⟩ ⟨Nat.zero_le _, Nat.zero_le _⟩ rfl rfl (Nat.le_of_ble_eq_true rfl) ?_
      refine x_if_ge C dX4_findOf_76 91 (by decide) 79 rfl (fun hc => ?_) (fun hc => ?_)
      · have hf := (if_pos hc).symm.trans hf
        exact x_vret C (hE _ (Option.some.inj hf).symm) dX4_findOf_91
      · have hf := (if_neg hc).symm.trans hf
        refine x_aload_n C dX4_findOf_79 80 rfl 3 rfl rfl ?_
        refine x_lload C dX4_findOf_80 82 rfl 2 rfl ?_
        obtain ⟨σ82, hσ82, hf⟩ := x_bind hf
        refine x_putX C dX4_findOf_82 85 rfl hσ82 cl4 rfl w438 rfl rfl rfl ?_
        refine x_aload_n C dX4_findOf_85 86 rfl 3 rfl rfl ?_
        refine x_lload C dX4_findOf_86 88 rfl 1 rfl ?_
        obtain ⟨σ88, hσ88, hf⟩ := x_bind hf
        refine x_putX C dX4_findOf_88 91 rfl hσ88 cl4 rfl w440 rfl rfl rfl ?_
        exact x_vret C (hE _ (Option.some.inj hf).symm) dX4_findOf_91
theorem dX5_endOf_0 : decode cX5_endOf 0 = .ok (.aload_n 0, 1) := by decide +kernel
theorem dX5_endOf_1 : decode cX5_endOf 1 = .ok (.getfield 34, 3) := by decide +kernel
theorem dX5_endOf_4 : decode cX5_endOf 4 = .ok (.aload_n 0, 1) := by decide +kernel
theorem dX5_endOf_5 : decode cX5_endOf 5 = .ok (.getfield 30, 3) := by decide +kernel
theorem dX5_endOf_8 : decode cX5_endOf 8 = .ok (.aload_n 0, 1) := by decide +kernel
theorem dX5_endOf_9 : decode cX5_endOf 9 = .ok (.getfield 11, 3) := by decide +kernel
theorem dX5_endOf_12 : decode cX5_endOf 12 = .ok (.iload_n 1, 1) := by decide +kernel
theorem dX5_endOf_13 : decode cX5_endOf 13 = .ok (.laload, 1) := by decide +kernel
theorem dX5_endOf_14 : decode cX5_endOf 14 = .ok (.iload_n 2, 1) := by decide +kernel
theorem dX5_endOf_15 : decode cX5_endOf 15 = .ok (.iload_n 3, 1) := by decide +kernel
theorem dX5_endOf_16 : decode cX5_endOf 16 = .ok (.invokestatic 99, 3) := by decide +kernel
theorem dX5_endOf_19 : decode cX5_endOf 19 = .ok (.invokevirtual 102, 3) := by decide +kernel
theorem dX5_endOf_22 : decode cX5_endOf 22 = .ok (.iconst 0, 1) := by decide +kernel
theorem dX5_endOf_23 : decode cX5_endOf 23 = .ok (.invokevirtual 105, 3) := by decide +kernel
theorem dX5_endOf_26 : decode cX5_endOf 26 = .ok (.lreturn, 1) := by decide +kernel
abbrev rmX5_endOf : Room := { frames := 4, cells := 0, slots := 0, locals := 141 }
noncomputable def fX5_endOf (σ : St) (x0 : Nat) (x1 : Int32) (x2 : Int32) (x3 : Int32) : Option ((Int64 × St)) :=
(gR σ x0 5 1).bind fun v1 =>
(gR σ x0 5 0).bind fun v5 =>
(gR σ x0 5 2).bind fun v9 =>
(aL σ v9 x1).bind fun v13 =>
(fX8_codeOf x2 x3).bind fun w16 =>
(isO σ v5 8).bind fun _ =>
(fX8_after σ v5 v13 w16).bind fun w19 =>
(isO σ v1 9).bind fun _ =>
(fX9_runFrom σ v1 w19 0).bind fun w23 =>
some (w23.1, w23.2)
set_option maxHeartbeats 4000000 in
set_option maxRecDepth 100000 in
theorem cX5_endOfc {l : Launch} {G : xG} {A : Nat → Prop} {σ : St} {x0 : Nat} {x1 : Int32} {x2 : Int32} {x3 : Int32} {c : (Int64 × St)} (hf : fX5_endOf σ x0 x1 x2 x3 = some c) : Con l yX5_endOf (xws yX5_endOf cX5_endOf 4 (some .long)) rmX5_endOf [.ref (x0), .int (x1), .int (x2), .int (x3)] G A σ (some (.long c.1)) c.2 := by
  refine x_start rfl (Nat.le_of_ble_eq_true rfl) (fun X _ _ _ C hE0 => ?_)
  have hE : ∀ r, c = r → xE1 X (some (.long r.1)) r.2 := fun r e => e ▸ hE0
  show V X (0, 0) σ 0 [(0, .ref (x0)), (1, .int (x1)), (2, .int (x2)), (3, .int (x3))] []
  unfold fX5_endOf at hf
  refine x_aload_n C dX5_endOf_0 1 rfl 0 rfl rfl ?_
  obtain ⟨v1, hv1, hf⟩ := x_bind hf
  refine x_getR C dX5_endOf_1 4 rfl hv1 cl5 rfl w338 ?_
  refine x_aload_n C dX5_endOf_4 5 rfl 0 rfl rfl ?_
  obtain ⟨v5, hv5, hf⟩ := x_bind hf
  refine x_getR C dX5_endOf_5 8 rfl hv5 cl5 rfl w337 ?_
  refine x_aload_n C dX5_endOf_8 9 rfl 0 rfl rfl ?_
  obtain ⟨v9, hv9, hf⟩ := x_bind hf
  refine x_getR C dX5_endOf_9 12 rfl hv9 cl5 rfl w339 ?_
  refine x_iload_n C dX5_endOf_12 13 rfl 1 rfl rfl ?_
  obtain ⟨v13, hv13, hf⟩ := x_bind hf
  refine x_laload C dX5_endOf_13 14 rfl hv13 ?_
  refine x_iload_n C dX5_endOf_14 15 rfl 2 rfl rfl ?_
  refine x_iload_n C dX5_endOf_15 16 rfl 3 rfl rfl ?_
  obtain ⟨w16, hw16, hf⟩ := x_bind hf
  refine x_callSi C dX5_endOf_16 19 rfl (cX8_codeOfc hw16) kX8_codeOf ksX8_codeOf w1015 ⟨rfl, rfl⟩ ⟨Nat.le_of_ble_eq_true rfl, Nat.le_of_ble_eq_true rfl⟩ ⟨Nat.zero_le _, Nat.zero_le _⟩ rfl rfl (Nat.le_of_ble_eq_true rfl) ?_
  obtain ⟨o19, ho19, hf⟩ := x_bind hf
  obtain ⟨w19, hw19, hf⟩ := x_bind hf
  refine x_callVl C dX5_endOf_19 22 rfl ho19 cl8.1 rfl (cX8_afterc hw19) kX8_after kvX8_after w1016 ⟨rfl, rfl⟩ ⟨Nat.le_of_ble_eq_true rfl, Nat.le_of_ble_eq_true rfl⟩ ⟨Nat.zero_le _, Nat.zero_le _⟩ rfl rfl (Nat.le_of_ble_eq_true rfl) ?_
  refine x_iconst C dX5_endOf_22 23 rfl 0 (by decide) ?_
  obtain ⟨o23, ho23, hf⟩ := x_bind hf
  obtain ⟨w23, hw23, hf⟩ := x_bind hf
  refine x_callVl C dX5_endOf_23 26 rfl ho23 cl9.1 rfl (cX9_runFromc hw23) kX9_runFrom kvX9_runFrom w1017 ⟨rfl, rfl⟩ ⟨Nat.le_of_ble_eq_true rfl, Nat.le_of_ble_eq_true rfl⟩ ⟨Nat.zero_le _, Nat.zero_le _⟩ rfl rfl (Nat.le_of_ble_eq_true rfl) ?_
  exact x_lret C (hE _ (Option.some.inj hf).symm) dX5_endOf_26
theorem dX5_firstRule_0 : decode cX5_firstRule 0 = .ok (.aload_n 0, 1) := by decide +kernel
theorem dX5_firstRule_1 : decode cX5_firstRule 1 = .ok (.getfield 15, 3) := by decide +kernel
theorem dX5_firstRule_4 : decode cX5_firstRule 4 = .ok (.iload_n 1, 1) := by decide +kernel
theorem dX5_firstRule_5 : decode cX5_firstRule 5 = .ok (.iaload, 1) := by decide +kernel
theorem dX5_firstRule_6 : decode cX5_firstRule 6 = .ok (.bipush 8, 2) := by decide +kernel
theorem dX5_firstRule_8 : decode cX5_firstRule 8 = .ok (.ishr, 1) := by decide +kernel
theorem dX5_firstRule_9 : decode cX5_firstRule 9 = .ok (.ireturn, 1) := by decide +kernel
abbrev rmX5_firstRule : Room := { frames := 0, cells := 0, slots := 0, locals := 0 }
noncomputable def fX5_firstRule (σ : St) (x0 : Nat) (x1 : Int32) : Option (Int32) :=
(gR σ x0 5 3).bind fun v1 =>
(aI σ v1 0 x1).bind fun v5 =>
some (v5 >>> (8 &&& 31))
set_option maxHeartbeats 4000000 in
set_option maxRecDepth 100000 in
theorem cX5_firstRulec {l : Launch} {G : xG} {A : Nat → Prop} {σ : St} {x0 : Nat} {x1 : Int32} {c : Int32} (hf : fX5_firstRule σ x0 x1 = some c) : Con l yX5_firstRule (xws yX5_firstRule cX5_firstRule 2 (some .int)) rmX5_firstRule [.ref (x0), .int (x1)] G A σ (some (.int c)) σ := by
  refine x_start rfl (Nat.le_of_ble_eq_true rfl) (fun X _ _ _ C hE0 => ?_)
  have hE : ∀ r, c = r → xE1 X (some (.int r)) σ := fun r e => e ▸ hE0
  show V X (0, 0) σ 0 [(0, .ref (x0)), (1, .int (x1))] []
  unfold fX5_firstRule at hf
  refine x_aload_n C dX5_firstRule_0 1 rfl 0 rfl rfl ?_
  obtain ⟨v1, hv1, hf⟩ := x_bind hf
  refine x_getR C dX5_firstRule_1 4 rfl hv1 cl5 rfl w341 ?_
  refine x_iload_n C dX5_firstRule_4 5 rfl 1 rfl rfl ?_
  obtain ⟨v5, hv5, hf⟩ := x_bind hf
  refine x_iaload C dX5_firstRule_5 6 rfl hv5 ?_
  refine x_bipush C dX5_firstRule_6 8 rfl 8 (by decide) ?_
  refine x_ishr C dX5_firstRule_8 9 rfl ?_
  exact x_iret C (hE _ (Option.some.inj hf).symm) dX5_firstRule_9
theorem dX5_secondRule_0 : decode cX5_secondRule 0 = .ok (.aload_n 0, 1) := by decide +kernel
theorem dX5_secondRule_1 : decode cX5_secondRule 1 = .ok (.getfield 15, 3) := by decide +kernel
theorem dX5_secondRule_4 : decode cX5_secondRule 4 = .ok (.iload_n 1, 1) := by decide +kernel
theorem dX5_secondRule_5 : decode cX5_secondRule 5 = .ok (.iaload, 1) := by decide +kernel
theorem dX5_secondRule_6 : decode cX5_secondRule 6 = .ok (.iconst 4, 1) := by decide +kernel
theorem dX5_secondRule_7 : decode cX5_secondRule 7 = .ok (.ishr, 1) := by decide +kernel
theorem dX5_secondRule_8 : decode cX5_secondRule 8 = .ok (.bipush 15, 2) := by decide +kernel
theorem dX5_secondRule_10 : decode cX5_secondRule 10 = .ok (.iand, 1) := by decide +kernel
theorem dX5_secondRule_11 : decode cX5_secondRule 11 = .ok (.ireturn, 1) := by decide +kernel
abbrev rmX5_secondRule : Room := { frames := 0, cells := 0, slots := 0, locals := 0 }
noncomputable def fX5_secondRule (σ : St) (x0 : Nat) (x1 : Int32) : Option (Int32) :=
(gR σ x0 5 3).bind fun v1 =>
(aI σ v1 0 x1).bind fun v5 =>
some ((v5 >>> (4 &&& 31)) &&& 15)
set_option maxHeartbeats 4000000 in
set_option maxRecDepth 100000 in
theorem cX5_secondRulec {l : Launch} {G : xG} {A : Nat → Prop} {σ : St} {x0 : Nat} {x1 : Int32} {c : Int32} (hf : fX5_secondRule σ x0 x1 = some c) : Con l yX5_secondRule (xws yX5_secondRule cX5_secondRule 2 (some .int)) rmX5_secondRule [.ref (x0), .int (x1)] G A σ (some (.int c)) σ := by
  refine x_start rfl (Nat.le_of_ble_eq_true rfl) (fun X _ _ _ C hE0 => ?_)
  have hE : ∀ r, c = r → xE1 X (some (.int r)) σ := fun r e => e ▸ hE0
  show V X (0, 0) σ 0 [(0, .ref (x0)), (1, .int (x1))] []
  unfold fX5_secondRule at hf
  refine x_aload_n C dX5_secondRule_0 1 rfl 0 rfl rfl ?_
  obtain ⟨v1, hv1, hf⟩ := x_bind hf
  refine x_getR C dX5_secondRule_1 4 rfl hv1 cl5 rfl w341 ?_
  refine x_iload_n C dX5_secondRule_4 5 rfl 1 rfl rfl ?_
  obtain ⟨v5, hv5, hf⟩ := x_bind hf
  refine x_iaload C dX5_secondRule_5 6 rfl hv5 ?_
  refine x_iconst C dX5_secondRule_6 7 rfl 4 (by decide) ?_
  refine x_ishr C dX5_secondRule_7 8 rfl ?_
  refine x_bipush C dX5_secondRule_8 10 rfl 15 (by decide) ?_
  refine x_iand C dX5_secondRule_10 11 rfl ?_
  exact x_iret C (hE _ (Option.some.inj hf).symm) dX5_secondRule_11
theorem dX5_shift_0 : decode cX5_shift 0 = .ok (.aload_n 0, 1) := by decide +kernel
theorem dX5_shift_1 : decode cX5_shift 1 = .ok (.getfield 15, 3) := by decide +kernel
theorem dX5_shift_4 : decode cX5_shift 4 = .ok (.iload_n 1, 1) := by decide +kernel
theorem dX5_shift_5 : decode cX5_shift 5 = .ok (.iaload, 1) := by decide +kernel
theorem dX5_shift_6 : decode cX5_shift 6 = .ok (.bipush 15, 2) := by decide +kernel
theorem dX5_shift_8 : decode cX5_shift 8 = .ok (.iand, 1) := by decide +kernel
theorem dX5_shift_9 : decode cX5_shift 9 = .ok (.ireturn, 1) := by decide +kernel
abbrev rmX5_shift : Room := { frames := 0, cells := 0, slots := 0, locals := 0 }
noncomputable def fX5_shift (σ : St) (x0 : Nat) (x1 : Int32) : Option (Int32) :=
(gR σ x0 5 3).bind fun v1 =>
(aI σ v1 0 x1).bind fun v5 =>
some (v5 &&& 15)
set_option maxHeartbeats 4000000 in
set_option maxRecDepth 100000 in
theorem cX5_shiftc {l : Launch} {G : xG} {A : Nat → Prop} {σ : St} {x0 : Nat} {x1 : Int32} {c : Int32} (hf : fX5_shift σ x0 x1 = some c) : Con l yX5_shift (xws yX5_shift cX5_shift 2 (some .int)) rmX5_shift [.ref (x0), .int (x1)] G A σ (some (.int c)) σ := by
  refine x_start rfl (Nat.le_of_ble_eq_true rfl) (fun X _ _ _ C hE0 => ?_)
  have hE : ∀ r, c = r → xE1 X (some (.int r)) σ := fun r e => e ▸ hE0
  show V X (0, 0) σ 0 [(0, .ref (x0)), (1, .int (x1))] []
  unfold fX5_shift at hf
  refine x_aload_n C dX5_shift_0 1 rfl 0 rfl rfl ?_
  obtain ⟨v1, hv1, hf⟩ := x_bind hf
  refine x_getR C dX5_shift_1 4 rfl hv1 cl5 rfl w341 ?_
  refine x_iload_n C dX5_shift_4 5 rfl 1 rfl rfl ?_
  obtain ⟨v5, hv5, hf⟩ := x_bind hf
  refine x_iaload C dX5_shift_5 6 rfl hv5 ?_
  refine x_bipush C dX5_shift_6 8 rfl 15 (by decide) ?_
  refine x_iand C dX5_shift_8 9 rfl ?_
  exact x_iret C (hE _ (Option.some.inj hf).symm) dX5_shift_9
theorem dX8_add_0 : decode cX8_add 0 = .ok (.aload_n 0, 1) := by decide +kernel
theorem dX8_add_1 : decode cX8_add 1 = .ok (.getfield 15, 3) := by decide +kernel
theorem dX8_add_4 : decode cX8_add 4 = .ok (.bipush 12, 2) := by decide +kernel
theorem dX8_add_6 : decode cX8_add 6 = .ok (.if_icmp .lt 4, 3) := by decide +kernel
theorem dX8_add_9 : decode cX8_add 9 = .ok (.return_, 1) := by decide +kernel
theorem dX8_add_10 : decode cX8_add 10 = .ok (.aload_n 0, 1) := by decide +kernel
theorem dX8_add_11 : decode cX8_add 11 = .ok (.getfield 18, 3) := by decide +kernel
theorem dX8_add_14 : decode cX8_add 14 = .ok (.aload_n 0, 1) := by decide +kernel
theorem dX8_add_15 : decode cX8_add 15 = .ok (.getfield 15, 3) := by decide +kernel
theorem dX8_add_18 : decode cX8_add 18 = .ok (.lload_n 1, 1) := by decide +kernel
theorem dX8_add_19 : decode cX8_add 19 = .ok (.lastore, 1) := by decide +kernel
theorem dX8_add_20 : decode cX8_add 20 = .ok (.aload_n 0, 1) := by decide +kernel
theorem dX8_add_21 : decode cX8_add 21 = .ok (.getfield 22, 3) := by decide +kernel
theorem dX8_add_24 : decode cX8_add 24 = .ok (.aload_n 0, 1) := by decide +kernel
theorem dX8_add_25 : decode cX8_add 25 = .ok (.getfield 15, 3) := by decide +kernel
theorem dX8_add_28 : decode cX8_add 28 = .ok (.lload_n 3, 1) := by decide +kernel
theorem dX8_add_29 : decode cX8_add 29 = .ok (.lastore, 1) := by decide +kernel
theorem dX8_add_30 : decode cX8_add 30 = .ok (.aload_n 0, 1) := by decide +kernel
theorem dX8_add_31 : decode cX8_add 31 = .ok (.dup, 1) := by decide +kernel
theorem dX8_add_32 : decode cX8_add 32 = .ok (.getfield 15, 3) := by decide +kernel
theorem dX8_add_35 : decode cX8_add 35 = .ok (.iconst 1, 1) := by decide +kernel
theorem dX8_add_36 : decode cX8_add 36 = .ok (.iadd, 1) := by decide +kernel
theorem dX8_add_37 : decode cX8_add 37 = .ok (.putfield 15, 3) := by decide +kernel
theorem dX8_add_40 : decode cX8_add 40 = .ok (.aload_n 0, 1) := by decide +kernel
theorem dX8_add_41 : decode cX8_add 41 = .ok (.dup, 1) := by decide +kernel
theorem dX8_add_42 : decode cX8_add 42 = .ok (.getfield 32, 3) := by decide +kernel
theorem dX8_add_45 : decode cX8_add 45 = .ok (.iconst 1, 1) := by decide +kernel
theorem dX8_add_46 : decode cX8_add 46 = .ok (.iadd, 1) := by decide +kernel
theorem dX8_add_47 : decode cX8_add 47 = .ok (.putfield 32, 3) := by decide +kernel
theorem dX8_add_50 : decode cX8_add 50 = .ok (.return_, 1) := by decide +kernel
abbrev rmX8_add : Room := { frames := 0, cells := 0, slots := 0, locals := 0 }
noncomputable def fX8_add (σ : St) (x0 : Nat) (x1 : Int64) (x3 : Int64) : Option (St) :=
(gI σ x0 8 1).bind fun v1 =>
if v1 < ((12 : Int32)) then
((gR σ x0 8 2).bind fun v11 =>
(gI σ x0 8 1).bind fun v15 =>
(sL σ v11 v15 x1).bind fun σ19 =>
(gR σ19 x0 8 3).bind fun v21 =>
(gI σ19 x0 8 1).bind fun v25 =>
(sL σ19 v21 v25 x3).bind fun σ29 =>
(gI σ29 x0 8 1).bind fun v32 =>
(wrF σ29 x0 8 1 (.int (v32 + 1))).bind fun σ37 =>
(gI σ37 x0 8 6).bind fun v42 =>
(wrF σ37 x0 8 6 (.int (v42 + 1))).bind fun σ47 =>
some σ47)
else
(some σ)
set_option maxHeartbeats 4000000 in
set_option maxRecDepth 100000 in
theorem cX8_addc {l : Launch} {G : xG} {A : Nat → Prop} {σ : St} {x0 : Nat} {x1 : Int64} {x3 : Int64} {c : St} (hf : fX8_add σ x0 x1 x3 = some c) : Con l yX8_add (xws yX8_add cX8_add 5 none) rmX8_add [.ref (x0), .long (x1), .long (x3)] G A σ none c := by
  refine x_start rfl (Nat.le_of_ble_eq_true rfl) (fun X _ _ _ C hE0 => ?_)
  have hE : ∀ r, c = r → xE1 X none r := fun r e => e ▸ hE0
  show V X (0, 0) σ 0 [(0, .ref (x0)), (1, .long (x1)), (3, .long (x3))] []
  unfold fX8_add at hf
  refine x_aload_n C dX8_add_0 1 rfl 0 rfl rfl ?_
  obtain ⟨v1, hv1, hf⟩ := x_bind hf
  refine x_getI C dX8_add_1 4 rfl hv1 cl8 rfl w182 ?_
  refine x_bipush C dX8_add_4 6 rfl 12 (by decide) ?_
  refine x_icmp_lt C dX8_add_6 10 (by decide) 9 rfl (fun hc => ?_) (fun hc => ?_)
  · have hf := (if_pos hc).symm.trans hf
    refine x_aload_n C dX8_add_10 11 rfl 0 rfl rfl ?_
    obtain ⟨v11, hv11, hf⟩ := x_bind hf
    refine x_getR C dX8_add_11 14 rfl hv11 cl8 rfl w189 ?_
    refine x_aload_n C dX8_add_14 15 rfl 0 rfl rfl ?_
    obtain ⟨v15, hv15, hf⟩ := x_bind hf
    refine x_getI C dX8_add_15 18 rfl hv15 cl8 rfl w182 ?_
    refine x_lload_n C dX8_add_18 19 rfl 1 rfl rfl ?_
    obtain ⟨σ19, hσ19, hf⟩ := x_bind hf
    refine x_lastore C dX8_add_19 20 rfl hσ19 ?_
    refine x_aload_n C dX8_add_20 21 rfl 0 rfl rfl ?_
    obtain ⟨v21, hv21, hf⟩ := x_bind hf
    refine x_getR C dX8_add_21 24 rfl hv21 cl8 rfl w196 ?_
    refine x_aload_n C dX8_add_24 25 rfl 0 rfl rfl ?_
    obtain ⟨v25, hv25, hf⟩ := x_bind hf
    refine x_getI C dX8_add_25 28 rfl hv25 cl8 rfl w182 ?_
    refine x_lload_n C dX8_add_28 29 rfl 2 rfl rfl ?_
    obtain ⟨σ29, hσ29, hf⟩ := x_bind hf
    refine x_lastore C dX8_add_29 30 rfl hσ29 ?_
    refine x_aload_n C dX8_add_30 31 rfl 0 rfl rfl ?_
    refine x_dup C dX8_add_31 32 rfl rfl ?_
    obtain ⟨v32, hv32, hf⟩ := x_bind hf
    refine x_getI C dX8_add_32 35 rfl hv32 cl8 rfl w182 ?_
    refine x_iconst C dX8_add_35 36 rfl 1 (by decide) ?_
    refine x_iadd C dX8_add_36 37 rfl ?_
    obtain ⟨σ37, hσ37, hf⟩ := x_bind hf
    refine x_putX C dX8_add_37 40 rfl hσ37 cl8 rfl w182 rfl rfl rfl ?_
    refine x_aload_n C dX8_add_40 41 rfl 0 rfl rfl ?_
    refine x_dup C dX8_add_41 42 rfl rfl ?_
    obtain ⟨v42, hv42, hf⟩ := x_bind hf
    refine x_getI C dX8_add_42 45 rfl hv42 cl8 rfl w208 ?_
    refine x_iconst C dX8_add_45 46 rfl 1 (by decide) ?_
    refine x_iadd C dX8_add_46 47 rfl ?_
    obtain ⟨σ47, hσ47, hf⟩ := x_bind hf
    refine x_putX C dX8_add_47 50 rfl hσ47 cl8 rfl w208 rfl rfl rfl ?_
    exact x_vret C (hE _ (Option.some.inj hf).symm) dX8_add_50
  · have hf := (if_neg hc).symm.trans hf
    exact x_vret C (hE _ (Option.some.inj hf).symm) dX8_add_9
theorem dX5_addRuleOf_0 : decode cX5_addRuleOf 0 = .ok (.aload_n 0, 1) := by decide +kernel
theorem dX5_addRuleOf_1 : decode cX5_addRuleOf 1 = .ok (.iload_n 1, 1) := by decide +kernel
theorem dX5_addRuleOf_2 : decode cX5_addRuleOf 2 = .ok (.iconst 0, 1) := by decide +kernel
theorem dX5_addRuleOf_3 : decode cX5_addRuleOf 3 = .ok (.aload_n 0, 1) := by decide +kernel
theorem dX5_addRuleOf_4 : decode cX5_addRuleOf 4 = .ok (.iload_n 1, 1) := by decide +kernel
theorem dX5_addRuleOf_5 : decode cX5_addRuleOf 5 = .ok (.invokevirtual 86, 3) := by decide +kernel
theorem dX5_addRuleOf_8 : decode cX5_addRuleOf 8 = .ok (.invokevirtual 90, 3) := by decide +kernel
theorem dX5_addRuleOf_11 : decode cX5_addRuleOf 11 = .ok (.lstore_n 2, 1) := by decide +kernel
theorem dX5_addRuleOf_12 : decode cX5_addRuleOf 12 = .ok (.aload_n 0, 1) := by decide +kernel
theorem dX5_addRuleOf_13 : decode cX5_addRuleOf 13 = .ok (.iload_n 1, 1) := by decide +kernel
theorem dX5_addRuleOf_14 : decode cX5_addRuleOf 14 = .ok (.aload_n 0, 1) := by decide +kernel
theorem dX5_addRuleOf_15 : decode cX5_addRuleOf 15 = .ok (.iload_n 1, 1) := by decide +kernel
theorem dX5_addRuleOf_16 : decode cX5_addRuleOf 16 = .ok (.invokevirtual 93, 3) := by decide +kernel
theorem dX5_addRuleOf_19 : decode cX5_addRuleOf 19 = .ok (.aload_n 0, 1) := by decide +kernel
theorem dX5_addRuleOf_20 : decode cX5_addRuleOf 20 = .ok (.iload_n 1, 1) := by decide +kernel
theorem dX5_addRuleOf_21 : decode cX5_addRuleOf 21 = .ok (.invokevirtual 96, 3) := by decide +kernel
theorem dX5_addRuleOf_24 : decode cX5_addRuleOf 24 = .ok (.invokevirtual 90, 3) := by decide +kernel
theorem dX5_addRuleOf_27 : decode cX5_addRuleOf 27 = .ok (.lstore 4, 2) := by decide +kernel
theorem dX5_addRuleOf_29 : decode cX5_addRuleOf 29 = .ok (.aload_n 0, 1) := by decide +kernel
theorem dX5_addRuleOf_30 : decode cX5_addRuleOf 30 = .ok (.getfield 30, 3) := by decide +kernel
theorem dX5_addRuleOf_33 : decode cX5_addRuleOf 33 = .ok (.lload_n 2, 1) := by decide +kernel
theorem dX5_addRuleOf_34 : decode cX5_addRuleOf 34 = .ok (.lload 4, 2) := by decide +kernel
theorem dX5_addRuleOf_36 : decode cX5_addRuleOf 36 = .ok (.invokevirtual 117, 3) := by decide +kernel
theorem dX5_addRuleOf_39 : decode cX5_addRuleOf 39 = .ok (.ifCond .le 16, 3) := by decide +kernel
theorem dX5_addRuleOf_42 : decode cX5_addRuleOf 42 = .ok (.aload_n 0, 1) := by decide +kernel
theorem dX5_addRuleOf_43 : decode cX5_addRuleOf 43 = .ok (.getfield 30, 3) := by decide +kernel
theorem dX5_addRuleOf_46 : decode cX5_addRuleOf 46 = .ok (.lload_n 2, 1) := by decide +kernel
theorem dX5_addRuleOf_47 : decode cX5_addRuleOf 47 = .ok (.lload 4, 2) := by decide +kernel
theorem dX5_addRuleOf_49 : decode cX5_addRuleOf 49 = .ok (.invokevirtual 121, 3) := by decide +kernel
theorem dX5_addRuleOf_52 : decode cX5_addRuleOf 52 = .ok (.goto 13, 3) := by decide +kernel
theorem dX5_addRuleOf_55 : decode cX5_addRuleOf 55 = .ok (.aload_n 0, 1) := by decide +kernel
theorem dX5_addRuleOf_56 : decode cX5_addRuleOf 56 = .ok (.getfield 30, 3) := by decide +kernel
theorem dX5_addRuleOf_59 : decode cX5_addRuleOf 59 = .ok (.lload 4, 2) := by decide +kernel
theorem dX5_addRuleOf_61 : decode cX5_addRuleOf 61 = .ok (.lload_n 2, 1) := by decide +kernel
theorem dX5_addRuleOf_62 : decode cX5_addRuleOf 62 = .ok (.invokevirtual 121, 3) := by decide +kernel
theorem dX5_addRuleOf_65 : decode cX5_addRuleOf 65 = .ok (.return_, 1) := by decide +kernel
abbrev rmX5_addRuleOf : Room := { frames := 5, cells := 0, slots := 0, locals := 164 }
noncomputable def fX5_addRuleOf (σ : St) (x0 : Nat) (x1 : Int32) : Option (St) :=
(isO σ x0 5).bind fun _ =>
(fX5_firstRule σ x0 x1).bind fun w5 =>
(isO σ x0 5).bind fun _ =>
(fX5_endOf σ x0 x1 0 w5).bind fun w8 =>
(isO w8.2 x0 5).bind fun _ =>
(fX5_shift w8.2 x0 x1).bind fun w16 =>
(isO w8.2 x0 5).bind fun _ =>
(fX5_secondRule w8.2 x0 x1).bind fun w21 =>
(isO w8.2 x0 5).bind fun _ =>
(fX5_endOf w8.2 x0 x1 w16 w21).bind fun w24 =>
(gR w24.2 x0 5 0).bind fun v30 =>
(isO w24.2 v30 8).bind fun _ =>
(fX8_order w24.2 v30 w8.1 w24.1).bind fun w36 =>
if w36 ≤ 0 then
((gR w24.2 x0 5 0).bind fun v56 =>
(isO w24.2 v56 8).bind fun _ =>
(fX8_add w24.2 v56 w24.1 w8.1).bind fun w62 =>
some w62)
else
((gR w24.2 x0 5 0).bind fun v43 =>
(isO w24.2 v43 8).bind fun _ =>
(fX8_add w24.2 v43 w8.1 w24.1).bind fun w49 =>
some w49)
set_option maxHeartbeats 4000000 in
set_option maxRecDepth 100000 in
theorem cX5_addRuleOfc {l : Launch} {G : xG} {A : Nat → Prop} {σ : St} {x0 : Nat} {x1 : Int32} {c : St} (hf : fX5_addRuleOf σ x0 x1 = some c) : Con l yX5_addRuleOf (xws yX5_addRuleOf cX5_addRuleOf 6 none) rmX5_addRuleOf [.ref (x0), .int (x1)] G A σ none c := by
  refine x_start rfl (Nat.le_of_ble_eq_true rfl) (fun X _ _ _ C hE0 => ?_)
  have hE : ∀ r, c = r → xE1 X none r := fun r e => e ▸ hE0
  show V X (0, 0) σ 0 [(0, .ref (x0)), (1, .int (x1))] []
  unfold fX5_addRuleOf at hf
  refine x_aload_n C dX5_addRuleOf_0 1 rfl 0 rfl rfl ?_
  refine x_iload_n C dX5_addRuleOf_1 2 rfl 1 rfl rfl ?_
  refine x_iconst C dX5_addRuleOf_2 3 rfl 0 (by decide) ?_
  refine x_aload_n C dX5_addRuleOf_3 4 rfl 0 rfl rfl ?_
  refine x_iload_n C dX5_addRuleOf_4 5 rfl 1 rfl rfl ?_
  obtain ⟨o5, ho5, hf⟩ := x_bind hf
  obtain ⟨w5, hw5, hf⟩ := x_bind hf
  refine x_callVi C dX5_addRuleOf_5 8 rfl ho5 cl5.1 rfl (cX5_firstRulec hw5) kX5_firstRule kvX5_firstRule w1007 ⟨rfl, rfl⟩ ⟨Nat.le_of_ble_eq_true rfl, Nat.le_of_ble_eq_true rfl⟩ ⟨Nat.zero_le _, Nat.zero_le _⟩ rfl rfl (Nat.le_of_ble_eq_true rfl) ?_
  obtain ⟨o8, ho8, hf⟩ := x_bind hf
  obtain ⟨w8, hw8, hf⟩ := x_bind hf
  refine x_callVl C dX5_addRuleOf_8 11 rfl ho8 cl5.1 rfl (cX5_endOfc hw8) kX5_endOf kvX5_endOf w1011 ⟨rfl, rfl⟩ ⟨Nat.le_of_ble_eq_true rfl, Nat.le_of_ble_eq_true rfl⟩ ⟨Nat.zero_le _, Nat.zero_le _⟩ rfl rfl (Nat.le_of_ble_eq_true rfl) ?_
  refine x_lstore_n C dX5_addRuleOf_11 12 rfl rfl rfl [(2, .long (w8.1)), (0, .ref (x0)), (1, .int (x1))] rfl ?_
  refine x_aload_n C dX5_addRuleOf_12 13 rfl 1 rfl rfl ?_
  refine x_iload_n C dX5_addRuleOf_13 14 rfl 2 rfl rfl ?_
  refine x_aload_n C dX5_addRuleOf_14 15 rfl 1 rfl rfl ?_
  refine x_iload_n C dX5_addRuleOf_15 16 rfl 2 rfl rfl ?_
  obtain ⟨o16, ho16, hf⟩ := x_bind hf
  obtain ⟨w16, hw16, hf⟩ := x_bind hf
  refine x_callVi C dX5_addRuleOf_16 19 rfl ho16 cl5.1 rfl (cX5_shiftc hw16) kX5_shift kvX5_shift w1018 ⟨rfl, rfl⟩ ⟨Nat.le_of_ble_eq_true rfl, Nat.le_of_ble_eq_true rfl⟩ ⟨Nat.zero_le _, Nat.zero_le _⟩ rfl rfl (Nat.le_of_ble_eq_true rfl) ?_
  refine x_aload_n C dX5_addRuleOf_19 20 rfl 1 rfl rfl ?_
  refine x_iload_n C dX5_addRuleOf_20 21 rfl 2 rfl rfl ?_
  obtain ⟨o21, ho21, hf⟩ := x_bind hf
  obtain ⟨w21, hw21, hf⟩ := x_bind hf
  refine x_callVi C dX5_addRuleOf_21 24 rfl ho21 cl5.1 rfl (cX5_secondRulec hw21) kX5_secondRule kvX5_secondRule w1022 ⟨rfl, rfl⟩ ⟨Nat.le_of_ble_eq_true rfl, Nat.le_of_ble_eq_true rfl⟩ ⟨Nat.zero_le _, Nat.zero_le _⟩ rfl rfl (Nat.le_of_ble_eq_true rfl) ?_
  obtain ⟨o24, ho24, hf⟩ := x_bind hf
  obtain ⟨w24, hw24, hf⟩ := x_bind hf
  refine x_callVl C dX5_addRuleOf_24 27 rfl ho24 cl5.1 rfl (cX5_endOfc hw24) kX5_endOf kvX5_endOf w1011 ⟨rfl, rfl⟩ ⟨Nat.le_of_ble_eq_true rfl, Nat.le_of_ble_eq_true rfl⟩ ⟨Nat.zero_le _, Nat.zero_le _⟩ rfl rfl (Nat.le_of_ble_eq_true rfl) ?_
  refine x_lstore C dX5_addRuleOf_27 29 rfl rfl [(4, .long (w24.1)), (2, .long (w8.1)), (0, .ref (x0)), (1, .int (x1))] rfl ?_
  refine x_aload_n C dX5_addRuleOf_29 30 rfl 2 rfl rfl ?_
  obtain ⟨v30, hv30, hf⟩ := x_bind hf
  refine x_getR C dX5_addRuleOf_30 33 rfl hv30 cl5 rfl w337 ?_
  refine x_lload_n C dX5_addRuleOf_33 34 rfl 1 rfl rfl ?_
  refine x_lload C dX5_addRuleOf_34 36 rfl 0 rfl ?_
  obtain ⟨o36, ho36, hf⟩ := x_bind hf
  obtain ⟨w36, hw36, hf⟩ := x_bind hf
  refine x_callVi C dX5_addRuleOf_36 39 rfl ho36 cl8.1 rfl (cX8_orderc hw36) kX8_order kvX8_order w1318 ⟨rfl, rfl⟩ ⟨Nat.le_of_ble_eq_true rfl, Nat.le_of_ble_eq_true rfl⟩ ⟨Nat.zero_le _, Nat.zero_le _⟩ rfl rfl (Nat.le_of_ble_eq_true rfl) ?_
  refine x_if_le C dX5_addRuleOf_39 55 (by decide) 42 rfl (fun hc => ?_) (fun hc => ?_)
  · have hf := (if_pos hc).symm.trans hf
    refine x_aload_n C dX5_addRuleOf_55 56 rfl 2 rfl rfl ?_
    obtain ⟨v56, hv56, hf⟩ := x_bind hf
    refine x_getR C dX5_addRuleOf_56 59 rfl hv56 cl5 rfl w337 ?_
    refine x_lload C dX5_addRuleOf_59 61 rfl 0 rfl ?_
    refine x_lload_n C dX5_addRuleOf_61 62 rfl 1 rfl rfl ?_
    obtain ⟨o62, ho62, hf⟩ := x_bind hf
    obtain ⟨w62, hw62, hf⟩ := x_bind hf
    refine x_callVv C dX5_addRuleOf_62 65 rfl ho62 cl8.1 rfl (cX8_addc hw62) kX8_add kvX8_add w1323 ⟨rfl, rfl⟩ ⟨Nat.le_of_ble_eq_true rfl, Nat.le_of_ble_eq_true rfl⟩ ⟨Nat.zero_le _, Nat.zero_le _⟩ rfl rfl (Nat.le_of_ble_eq_true rfl) ?_
    exact x_vret C (hE _ (Option.some.inj hf).symm) dX5_addRuleOf_65
  · have hf := (if_neg hc).symm.trans hf
    refine x_aload_n C dX5_addRuleOf_42 43 rfl 2 rfl rfl ?_
    obtain ⟨v43, hv43, hf⟩ := x_bind hf
    refine x_getR C dX5_addRuleOf_43 46 rfl hv43 cl5 rfl w337 ?_
    refine x_lload_n C dX5_addRuleOf_46 47 rfl 1 rfl rfl ?_
    refine x_lload C dX5_addRuleOf_47 49 rfl 0 rfl ?_
    obtain ⟨o49, ho49, hf⟩ := x_bind hf
    obtain ⟨w49, hw49, hf⟩ := x_bind hf
    refine x_callVv C dX5_addRuleOf_49 52 rfl ho49 cl8.1 rfl (cX8_addc hw49) kX8_add kvX8_add w1323 ⟨rfl, rfl⟩ ⟨Nat.le_of_ble_eq_true rfl, Nat.le_of_ble_eq_true rfl⟩ ⟨Nat.zero_le _, Nat.zero_le _⟩ rfl rfl (Nat.le_of_ble_eq_true rfl) ?_
    refine x_goto C dX5_addRuleOf_52 65 (by decide) ?_
    exact x_vret C (hE _ (Option.some.inj hf).symm) dX5_addRuleOf_65
theorem dX5_laid_0 : decode cX5_laid 0 = .ok (.aload_n 0, 1) := by decide +kernel
theorem dX5_laid_1 : decode cX5_laid 1 = .ok (.getfield 30, 3) := by decide +kernel
theorem dX5_laid_4 : decode cX5_laid 4 = .ok (.getfield 46, 3) := by decide +kernel
theorem dX5_laid_7 : decode cX5_laid 7 = .ok (.iload_n 1, 1) := by decide +kernel
theorem dX5_laid_8 : decode cX5_laid 8 = .ok (.laload, 1) := by decide +kernel
theorem dX5_laid_9 : decode cX5_laid 9 = .ok (.lstore 4, 2) := by decide +kernel
theorem dX5_laid_11 : decode cX5_laid 11 = .ok (.aload_n 0, 1) := by decide +kernel
theorem dX5_laid_12 : decode cX5_laid 12 = .ok (.getfield 30, 3) := by decide +kernel
theorem dX5_laid_15 : decode cX5_laid 15 = .ok (.getfield 46, 3) := by decide +kernel
theorem dX5_laid_18 : decode cX5_laid 18 = .ok (.iload_n 2, 1) := by decide +kernel
theorem dX5_laid_19 : decode cX5_laid 19 = .ok (.laload, 1) := by decide +kernel
theorem dX5_laid_20 : decode cX5_laid 20 = .ok (.lstore 6, 2) := by decide +kernel
theorem dX5_laid_22 : decode cX5_laid 22 = .ok (.lload 4, 2) := by decide +kernel
theorem dX5_laid_24 : decode cX5_laid 24 = .ok (.invokestatic 49, 3) := by decide +kernel
theorem dX5_laid_27 : decode cX5_laid 27 = .ok (.iload_n 3, 1) := by decide +kernel
theorem dX5_laid_28 : decode cX5_laid 28 = .ok (.isub, 1) := by decide +kernel
theorem dX5_laid_29 : decode cX5_laid 29 = .ok (.lload 6, 2) := by decide +kernel
theorem dX5_laid_31 : decode cX5_laid 31 = .ok (.invokestatic 49, 3) := by decide +kernel
theorem dX5_laid_34 : decode cX5_laid 34 = .ok (.invokestatic 61, 3) := by decide +kernel
theorem dX5_laid_37 : decode cX5_laid 37 = .ok (.istore 8, 2) := by decide +kernel
theorem dX5_laid_39 : decode cX5_laid 39 = .ok (.iload_n 3, 1) := by decide +kernel
theorem dX5_laid_40 : decode cX5_laid 40 = .ok (.lload 6, 2) := by decide +kernel
theorem dX5_laid_42 : decode cX5_laid 42 = .ok (.invokestatic 49, 3) := by decide +kernel
theorem dX5_laid_45 : decode cX5_laid 45 = .ok (.iadd, 1) := by decide +kernel
theorem dX5_laid_46 : decode cX5_laid 46 = .ok (.bipush 16, 2) := by decide +kernel
theorem dX5_laid_48 : decode cX5_laid 48 = .ok (.if_icmp .gt 23, 3) := by decide +kernel
theorem dX5_laid_51 : decode cX5_laid 51 = .ok (.lload 4, 2) := by decide +kernel
theorem dX5_laid_53 : decode cX5_laid 53 = .ok (.iload_n 3, 1) := by decide +kernel
theorem dX5_laid_54 : decode cX5_laid 54 = .ok (.iload 8, 2) := by decide +kernel
theorem dX5_laid_56 : decode cX5_laid 56 = .ok (.invokestatic 67, 3) := by decide +kernel
theorem dX5_laid_59 : decode cX5_laid 59 = .ok (.lload 6, 2) := by decide +kernel
theorem dX5_laid_61 : decode cX5_laid 61 = .ok (.iconst 0, 1) := by decide +kernel
theorem dX5_laid_62 : decode cX5_laid 62 = .ok (.iload 8, 2) := by decide +kernel
theorem dX5_laid_64 : decode cX5_laid 64 = .ok (.invokestatic 67, 3) := by decide +kernel
theorem dX5_laid_67 : decode cX5_laid 67 = .ok (.lcmp, 1) := by decide +kernel
theorem dX5_laid_68 : decode cX5_laid 68 = .ok (.ifCond .eq 7, 3) := by decide +kernel
theorem dX5_laid_71 : decode cX5_laid 71 = .ok (.ldc2_w 59, 3) := by decide +kernel
theorem dX5_laid_74 : decode cX5_laid 74 = .ok (.lreturn, 1) := by decide +kernel
theorem dX5_laid_75 : decode cX5_laid 75 = .ok (.lload 4, 2) := by decide +kernel
theorem dX5_laid_77 : decode cX5_laid 77 = .ok (.lstore 9, 2) := by decide +kernel
theorem dX5_laid_79 : decode cX5_laid 79 = .ok (.iload 8, 2) := by decide +kernel
theorem dX5_laid_81 : decode cX5_laid 81 = .ok (.istore 11, 2) := by decide +kernel
theorem dX5_laid_83 : decode cX5_laid 83 = .ok (.iload 11, 2) := by decide +kernel
theorem dX5_laid_85 : decode cX5_laid 85 = .ok (.lload 6, 2) := by decide +kernel
theorem dX5_laid_87 : decode cX5_laid 87 = .ok (.invokestatic 49, 3) := by decide +kernel
theorem dX5_laid_90 : decode cX5_laid 90 = .ok (.if_icmp .ge 23, 3) := by decide +kernel
theorem dX5_laid_93 : decode cX5_laid 93 = .ok (.lload 9, 2) := by decide +kernel
theorem dX5_laid_95 : decode cX5_laid 95 = .ok (.lload 6, 2) := by decide +kernel
theorem dX5_laid_97 : decode cX5_laid 97 = .ok (.iload 11, 2) := by decide +kernel
theorem dX5_laid_99 : decode cX5_laid 99 = .ok (.invokestatic 71, 3) := by decide +kernel
theorem dX5_laid_102 : decode cX5_laid 102 = .ok (.invokestatic 75, 3) := by decide +kernel
theorem dX5_laid_105 : decode cX5_laid 105 = .ok (.lstore 9, 2) := by decide +kernel
theorem dX5_laid_107 : decode cX5_laid 107 = .ok (.iinc 11 1, 3) := by decide +kernel
theorem dX5_laid_110 : decode cX5_laid 110 = .ok (.goto (-27), 3) := by decide +kernel
theorem dX5_laid_113 : decode cX5_laid 113 = .ok (.lload 9, 2) := by decide +kernel
theorem dX5_laid_115 : decode cX5_laid 115 = .ok (.iconst 0, 1) := by decide +kernel
theorem dX5_laid_116 : decode cX5_laid 116 = .ok (.lload 4, 2) := by decide +kernel
theorem dX5_laid_118 : decode cX5_laid 118 = .ok (.aload_n 0, 1) := by decide +kernel
theorem dX5_laid_119 : decode cX5_laid 119 = .ok (.getfield 30, 3) := by decide +kernel
theorem dX5_laid_122 : decode cX5_laid 122 = .ok (.getfield 79, 3) := by decide +kernel
theorem dX5_laid_125 : decode cX5_laid 125 = .ok (.iload_n 1, 1) := by decide +kernel
theorem dX5_laid_126 : decode cX5_laid 126 = .ok (.laload, 1) := by decide +kernel
theorem dX5_laid_127 : decode cX5_laid 127 = .ok (.invokestatic 82, 3) := by decide +kernel
theorem dX5_laid_130 : decode cX5_laid 130 = .ok (.ifCond .eq 27, 3) := by decide +kernel
theorem dX5_laid_133 : decode cX5_laid 133 = .ok (.lload 9, 2) := by decide +kernel
theorem dX5_laid_135 : decode cX5_laid 135 = .ok (.iload_n 3, 1) := by decide +kernel
theorem dX5_laid_136 : decode cX5_laid 136 = .ok (.lload 6, 2) := by decide +kernel
theorem dX5_laid_138 : decode cX5_laid 138 = .ok (.aload_n 0, 1) := by decide +kernel
theorem dX5_laid_139 : decode cX5_laid 139 = .ok (.getfield 30, 3) := by decide +kernel
theorem dX5_laid_142 : decode cX5_laid 142 = .ok (.getfield 79, 3) := by decide +kernel
theorem dX5_laid_145 : decode cX5_laid 145 = .ok (.iload_n 2, 1) := by decide +kernel
theorem dX5_laid_146 : decode cX5_laid 146 = .ok (.laload, 1) := by decide +kernel
theorem dX5_laid_147 : decode cX5_laid 147 = .ok (.invokestatic 82, 3) := by decide +kernel
theorem dX5_laid_150 : decode cX5_laid 150 = .ok (.ifCond .eq 7, 3) := by decide +kernel
theorem dX5_laid_153 : decode cX5_laid 153 = .ok (.iconst 1, 1) := by decide +kernel
theorem dX5_laid_154 : decode cX5_laid 154 = .ok (.goto 4, 3) := by decide +kernel
theorem dX5_laid_157 : decode cX5_laid 157 = .ok (.iconst 0, 1) := by decide +kernel
theorem dX5_laid_158 : decode cX5_laid 158 = .ok (.istore 11, 2) := by decide +kernel
theorem dX5_laid_160 : decode cX5_laid 160 = .ok (.iload 11, 2) := by decide +kernel
theorem dX5_laid_162 : decode cX5_laid 162 = .ok (.ifCond .eq 8, 3) := by decide +kernel
theorem dX5_laid_165 : decode cX5_laid 165 = .ok (.lload 9, 2) := by decide +kernel
theorem dX5_laid_167 : decode cX5_laid 167 = .ok (.goto 6, 3) := by decide +kernel
theorem dX5_laid_170 : decode cX5_laid 170 = .ok (.ldc2_w 59, 3) := by decide +kernel
theorem dX5_laid_173 : decode cX5_laid 173 = .ok (.lreturn, 1) := by decide +kernel
abbrev rmX5_laid : Room := { frames := 1, cells := 0, slots := 0, locals := 60 }
noncomputable def fLX5_laid_83 (σ : St) (x0 : Nat) (x1 : Int32) (x2 : Int32) (x3 : Int32) (x4 : Int64) (x6 : Int64) (a : Int64 × Int32) : Option ((Int64 × Int32) ⊕ (Int64)) :=
(fX10_length x6).bind fun w87 =>
if w87 ≤ a.2 then
(some (Sum.inr a.1))
else
((fX10_letterOf x6 a.2).bind fun w99 =>
(fX10_longer a.1 w99).bind fun w102 =>
xlet (a.2 + 1) fun v107 =>
some (Sum.inl (w102, v107)))
set_option maxHeartbeats 4000000 in
set_option maxRecDepth 100000 in
theorem lpX5_laid_83 {X : xX} {σ : St} {x0 : Nat} {x1 : Int32} {x2 : Int32} {x3 : Int32} {x4 : Int64} {x6 : Int64}  {a0 : Int64 × Int32} {b : Int64} (C : Ok X cX5_laid 12 RX5 rmX5_laid (some .long)) (hb : iterP (fLX5_laid_83 σ x0 x1 x2 x3 x4 x6) a0 = some b) (hy0 : ∀ s, b = s → V X (0, 0) σ 113 [(0, .ref (x0)), (1, .int (x1)), (2, .int (x2)), (3, .int (x3)), (4, .long (x4)), (6, .long (x6)), (9, .long (s))] []) : V X (0, 0) σ 83 [(0, .ref (x0)), (1, .int (x1)), (2, .int (x2)), (3, .int (x3)), (4, .long (x4)), (6, .long (x6)), (9, .long (a0.1)), (11, .int (a0.2))] [] := by
  obtain ⟨n, hn⟩ := iterP_some hb
  refine x_loop (P := fun a => V X (0, 0) σ 83 [(0, .ref (x0)), (1, .int (x1)), (2, .int (x2)), (3, .int (x3)), (4, .long (x4)), (6, .long (x6)), (9, .long (a.1)), (11, .int (a.2))] []) ?_ n a0 hn
  intro a c hf hK hxx
  have hx0 : ∀ s, c = Sum.inr s → V X (0, 0) σ 113 [(0, .ref (x0)), (1, .int (x1)), (2, .int (x2)), (3, .int (x3)), (4, .long (x4)), (6, .long (x6)), (9, .long (s))] [] := fun s e => hy0 s (hxx _ e).symm
  unfold fLX5_laid_83 at hf
  refine x_iload C dX5_laid_83 85 rfl 7 rfl ?_
  refine x_lload C dX5_laid_85 87 rfl 5 rfl ?_
  obtain ⟨w87, hw87, hf⟩ := x_bind hf
  refine x_callSi C dX5_laid_87 90 rfl (cX10_lengthc hw87) kX10_length ksX10_length w985 ⟨rfl, rfl⟩ ⟨Nat.le_of_ble_eq_true rfl, Nat.le_of_ble_eq_true rfl⟩ ⟨Nat.zero_le _, Nat.zero_le _⟩ rfl rfl (Nat.le_of_ble_eq_true rfl) ?_
  refine x_icmp_ge C dX5_laid_90 113 (by decide) 93 rfl (fun hc => ?_) (fun hc => ?_)
  · have hf := (if_pos hc).symm.trans hf
    refine x_lv [0, 1, 2, 3, 4, 5, 6] (lv' := [(0, .ref (x0)), (1, .int (x1)), (2, .int (x2)), (3, .int (x3)), (4, .long (x4)), (6, .long (x6)), (9, .long (a.1))]) rfl ?_
    exact hx0 _ (Option.some.inj hf).symm
  · have hf := (if_neg hc).symm.trans hf
    refine x_lload C dX5_laid_93 95 rfl 6 rfl ?_
    refine x_lload C dX5_laid_95 97 rfl 5 rfl ?_
    refine x_iload C dX5_laid_97 99 rfl 7 rfl ?_
    obtain ⟨w99, hw99, hf⟩ := x_bind hf
    refine x_callSi C dX5_laid_99 102 rfl (cX10_letterOfc hw99) kX10_letterOf ksX10_letterOf w995 ⟨rfl, rfl⟩ ⟨Nat.le_of_ble_eq_true rfl, Nat.le_of_ble_eq_true rfl⟩ ⟨Nat.zero_le _, Nat.zero_le _⟩ rfl rfl (Nat.le_of_ble_eq_true rfl) ?_
    obtain ⟨w102, hw102, hf⟩ := x_bind hf
    refine x_callSl C dX5_laid_102 105 rfl (cX10_longerc hw102) kX10_longer ksX10_longer w996 ⟨rfl, rfl⟩ ⟨Nat.le_of_ble_eq_true rfl, Nat.le_of_ble_eq_true rfl⟩ ⟨Nat.zero_le _, Nat.zero_le _⟩ rfl rfl (Nat.le_of_ble_eq_true rfl) ?_
    refine x_lstore C dX5_laid_105 107 rfl rfl [(9, .long (w102)), (0, .ref (x0)), (1, .int (x1)), (2, .int (x2)), (3, .int (x3)), (4, .long (x4)), (6, .long (x6)), (11, .int (a.2))] rfl ?_
    obtain ⟨v107, ev107, hf⟩ := xlet_some hf
    refine x_iinc C dX5_laid_107 110 rfl 7 rfl v107 ev107 rfl [(11, .int (v107)), (9, .long (w102)), (0, .ref (x0)), (1, .int (x1)), (2, .int (x2)), (3, .int (x3)), (4, .long (x4)), (6, .long (x6))] rfl ?_
    refine x_goto C dX5_laid_110 83 (by decide) ?_
    refine x_lv [2, 3, 4, 5, 6, 7, 1, 0] (lv' := [(0, .ref (x0)), (1, .int (x1)), (2, .int (x2)), (3, .int (x3)), (4, .long (x4)), (6, .long (x6)), (9, .long (w102)), (11, .int (v107))]) rfl ?_
    exact hK _ (Option.some.inj hf).symm
noncomputable def fX5_laid (σ : St) (x0 : Nat) (x1 : Int32) (x2 : Int32) (x3 : Int32) : Option (Int64) :=
(gR σ x0 5 0).bind fun v1 =>
(gR σ v1 8 2).bind fun v4 =>
(aL σ v4 x1).bind fun v8 =>
(gR σ x0 5 0).bind fun v12 =>
(gR σ v12 8 2).bind fun v15 =>
(aL σ v15 x2).bind fun v19 =>
(fX10_length v8).bind fun w24 =>
(fX10_length v19).bind fun w31 =>
xlet (imin (w24 - x3) w31) fun v37 =>
(fX10_length v19).bind fun w42 =>
if ((16 : Int32)) < (x3 + w42) then
(some (-1))
else
((fX10_part v8 x3 v37).bind fun w56 =>
(fX10_part v19 0 v37).bind fun w64 =>
if (lg_cmp w56 w64) = 0 then
((iterP (fLX5_laid_83 σ x0 x1 x2 x3 v8 v19) (v8, v37)).bind fun b83 =>
(gR σ x0 5 0).bind fun v119 =>
(gR σ v119 8 3).bind fun v122 =>
(aL σ v122 x1).bind fun v126 =>
(fX10_fits b83 0 v8 v126).bind fun w127 =>
if w127 = 0 then
(if ((0 : Int32)) = 0 then
(some (-1))
else
(some b83))
else
((gR σ x0 5 0).bind fun v139 =>
(gR σ v139 8 3).bind fun v142 =>
(aL σ v142 x2).bind fun v146 =>
(fX10_fits b83 x3 v19 v146).bind fun w147 =>
if w147 = 0 then
(if ((0 : Int32)) = 0 then
(some (-1))
else
(some b83))
else
(if ((1 : Int32)) = 0 then
(some (-1))
else
(some b83))))
else
(some (-1)))
set_option maxHeartbeats 4000000 in
set_option maxRecDepth 100000 in
theorem cX5_laidc {l : Launch} {G : xG} {A : Nat → Prop} {σ : St} {x0 : Nat} {x1 : Int32} {x2 : Int32} {x3 : Int32} {c : Int64} (hf : fX5_laid σ x0 x1 x2 x3 = some c) : Con l yX5_laid (xws yX5_laid cX5_laid 12 (some .long)) rmX5_laid [.ref (x0), .int (x1), .int (x2), .int (x3)] G A σ (some (.long c)) σ := by
  refine x_start rfl (Nat.le_of_ble_eq_true rfl) (fun X _ _ _ C hE0 => ?_)
  have hE : ∀ r, c = r → xE1 X (some (.long r)) σ := fun r e => e ▸ hE0
  show V X (0, 0) σ 0 [(0, .ref (x0)), (1, .int (x1)), (2, .int (x2)), (3, .int (x3))] []
  unfold fX5_laid at hf
  refine x_aload_n C dX5_laid_0 1 rfl 0 rfl rfl ?_
  obtain ⟨v1, hv1, hf⟩ := x_bind hf
  refine x_getR C dX5_laid_1 4 rfl hv1 cl5 rfl w337 ?_
  obtain ⟨v4, hv4, hf⟩ := x_bind hf
  refine x_getR C dX5_laid_4 7 rfl hv4 cl8 rfl w190 ?_
  refine x_iload_n C dX5_laid_7 8 rfl 1 rfl rfl ?_
  obtain ⟨v8, hv8, hf⟩ := x_bind hf
  refine x_laload C dX5_laid_8 9 rfl hv8 ?_
  refine x_lstore C dX5_laid_9 11 rfl rfl [(4, .long (v8)), (0, .ref (x0)), (1, .int (x1)), (2, .int (x2)), (3, .int (x3))] rfl ?_
  refine x_aload_n C dX5_laid_11 12 rfl 1 rfl rfl ?_
  obtain ⟨v12, hv12, hf⟩ := x_bind hf
  refine x_getR C dX5_laid_12 15 rfl hv12 cl5 rfl w337 ?_
  obtain ⟨v15, hv15, hf⟩ := x_bind hf
  refine x_getR C dX5_laid_15 18 rfl hv15 cl8 rfl w190 ?_
  refine x_iload_n C dX5_laid_18 19 rfl 3 rfl rfl ?_
  obtain ⟨v19, hv19, hf⟩ := x_bind hf
  refine x_laload C dX5_laid_19 20 rfl hv19 ?_
  refine x_lstore C dX5_laid_20 22 rfl rfl [(6, .long (v19)), (4, .long (v8)), (0, .ref (x0)), (1, .int (x1)), (2, .int (x2)), (3, .int (x3))] rfl ?_
  refine x_lload C dX5_laid_22 24 rfl 1 rfl ?_
  obtain ⟨w24, hw24, hf⟩ := x_bind hf
  refine x_callSi C dX5_laid_24 27 rfl (cX10_lengthc hw24) kX10_length ksX10_length w985 ⟨rfl, rfl⟩ ⟨Nat.le_of_ble_eq_true rfl, Nat.le_of_ble_eq_true rfl⟩ ⟨Nat.zero_le _, Nat.zero_le _⟩ rfl rfl (Nat.le_of_ble_eq_true rfl) ?_
  refine x_iload_n C dX5_laid_27 28 rfl 5 rfl rfl ?_
  refine x_isub C dX5_laid_28 29 rfl ?_
  refine x_lload C dX5_laid_29 31 rfl 0 rfl ?_
  obtain ⟨w31, hw31, hf⟩ := x_bind hf
  refine x_callSi C dX5_laid_31 34 rfl (cX10_lengthc hw31) kX10_length ksX10_length w985 ⟨rfl, rfl⟩ ⟨Nat.le_of_ble_eq_true rfl, Nat.le_of_ble_eq_true rfl⟩ ⟨Nat.zero_le _, Nat.zero_le _⟩ rfl rfl (Nat.le_of_ble_eq_true rfl) ?_
  refine x_mmin C dX5_laid_34 37 rfl w990 mminw ⟨Nat.le_of_ble_eq_true rfl, Nat.le_of_ble_eq_true rfl⟩ ⟨Nat.zero_le _, Nat.zero_le _⟩ ?_
  obtain ⟨v37, ev37, hf⟩ := xlet_some hf
  refine x_topi ev37 ?_
  refine x_istore C dX5_laid_37 39 rfl rfl [(8, .int (v37)), (6, .long (v19)), (4, .long (v8)), (0, .ref (x0)), (1, .int (x1)), (2, .int (x2)), (3, .int (x3))] rfl ?_
  refine x_iload_n C dX5_laid_39 40 rfl 6 rfl rfl ?_
  refine x_lload C dX5_laid_40 42 rfl 1 rfl ?_
  obtain ⟨w42, hw42, hf⟩ := x_bind hf
  refine x_callSi C dX5_laid_42 45 rfl (cX10_lengthc hw42) kX10_length ksX10_length w985 ⟨rfl, rfl⟩ ⟨Nat.le_of_ble_eq_true rfl, Nat.le_of_ble_eq_true rfl⟩ ⟨Nat.zero_le _, Nat.zero_le _⟩ rfl rfl (Nat.le_of_ble_eq_true rfl) ?_
  refine x_iadd C dX5_laid_45 46 rfl ?_
  refine x_bipush C dX5_laid_46 48 rfl 16 (by decide) ?_
  refine x_icmp_gt C dX5_laid_48 71 (by decide) 51 rfl (fun hc => ?_) (fun hc => ?_)
  · have hf := (if_pos hc).symm.trans hf
    refine x_ldc2 C dX5_laid_71 74 rfl w994 ?_
    exact x_lret C (hE _ (Option.some.inj hf).symm) dX5_laid_74
  · have hf := (if_neg hc).symm.trans hf
    refine x_lload C dX5_laid_51 53 rfl 2 rfl ?_
    refine x_iload_n C dX5_laid_53 54 rfl 6 rfl rfl ?_
    refine x_iload C dX5_laid_54 56 rfl 0 rfl ?_
    obtain ⟨w56, hw56, hf⟩ := x_bind hf
    refine x_callSl C dX5_laid_56 59 rfl (cX10_partc hw56) kX10_part ksX10_part w991 ⟨rfl, rfl⟩ ⟨Nat.le_of_ble_eq_true rfl, Nat.le_of_ble_eq_true rfl⟩ ⟨Nat.zero_le _, Nat.zero_le _⟩ rfl rfl (Nat.le_of_ble_eq_true rfl) ?_
    refine x_lload C dX5_laid_59 61 rfl 1 rfl ?_
    refine x_iconst C dX5_laid_61 62 rfl 0 (by decide) ?_
    refine x_iload C dX5_laid_62 64 rfl 0 rfl ?_
    obtain ⟨w64, hw64, hf⟩ := x_bind hf
    refine x_callSl C dX5_laid_64 67 rfl (cX10_partc hw64) kX10_part ksX10_part w991 ⟨rfl, rfl⟩ ⟨Nat.le_of_ble_eq_true rfl, Nat.le_of_ble_eq_true rfl⟩ ⟨Nat.zero_le _, Nat.zero_le _⟩ rfl rfl (Nat.le_of_ble_eq_true rfl) ?_
    refine x_lcmp C dX5_laid_67 68 rfl ?_
    refine x_if_eq C dX5_laid_68 75 (by decide) 71 rfl (fun hc => ?_) (fun hc => ?_)
    · have hf := (if_pos hc).symm.trans hf
      refine x_lload C dX5_laid_75 77 rfl 2 rfl ?_
      refine x_lstore C dX5_laid_77 79 rfl rfl [(9, .long (v8)), (8, .int (v37)), (6, .long (v19)), (4, .long (v8)), (0, .ref (x0)), (1, .int (x1)), (2, .int (x2)), (3, .int (x3))] rfl ?_
      refine x_iload C dX5_laid_79 81 rfl 1 rfl ?_
      refine x_istore C dX5_laid_81 83 rfl rfl [(11, .int (v37)), (9, .long (v8)), (8, .int (v37)), (6, .long (v19)), (4, .long (v8)), (0, .ref (x0)), (1, .int (x1)), (2, .int (x2)), (3, .int (x3))] rfl ?_
      obtain ⟨b83, hb83, hf⟩ := x_bind hf
      refine x_lv [5, 6, 7, 8, 4, 3, 1, 0] (lv' := [(0, .ref (x0)), (1, .int (x1)), (2, .int (x2)), (3, .int (x3)), (4, .long (v8)), (6, .long (v19)), (9, .long (v8)), (11, .int (v37))]) rfl ?_
      refine lpX5_laid_83 C hb83 (fun s83 e83 => ?_)
      subst e83
      refine x_lload C dX5_laid_113 115 rfl 6 rfl ?_
      refine x_iconst C dX5_laid_115 116 rfl 0 (by decide) ?_
      refine x_lload C dX5_laid_116 118 rfl 4 rfl ?_
      refine x_aload_n C dX5_laid_118 119 rfl 0 rfl rfl ?_
      obtain ⟨v119, hv119, hf⟩ := x_bind hf
      refine x_getR C dX5_laid_119 122 rfl hv119 cl5 rfl w337 ?_
      obtain ⟨v122, hv122, hf⟩ := x_bind hf
      refine x_getR C dX5_laid_122 125 rfl hv122 cl8 rfl w199 ?_
      refine x_iload_n C dX5_laid_125 126 rfl 1 rfl rfl ?_
      obtain ⟨v126, hv126, hf⟩ := x_bind hf
      refine x_laload C dX5_laid_126 127 rfl hv126 ?_
      obtain ⟨w127, hw127, hf⟩ := x_bind hf
      refine x_callSi C dX5_laid_127 130 rfl (cX10_fitsc hw127) kX10_fits ksX10_fits w997 ⟨rfl, rfl⟩ ⟨Nat.le_of_ble_eq_true rfl, Nat.le_of_ble_eq_true rfl⟩ ⟨Nat.zero_le _, Nat.zero_le _⟩ rfl rfl (Nat.le_of_ble_eq_true rfl) ?_
      refine x_if_eq C dX5_laid_130 157 (by decide) 133 rfl (fun hc => ?_) (fun hc => ?_)
      · have hf := (if_pos hc).symm.trans hf
        refine x_iconst C dX5_laid_157 158 rfl 0 (by decide) ?_
        refine x_istore C dX5_laid_158 160 rfl rfl [(11, .int (0)), (0, .ref (x0)), (1, .int (x1)), (2, .int (x2)), (3, .int (x3)), (4, .long (v8)), (6, .long (v19)), (9, .long (b83))] rfl ?_
        refine x_iload C dX5_laid_160 162 rfl 0 rfl ?_
        refine x_if_eq C dX5_laid_162 170 (by decide) 165 rfl (fun hc => ?_) (fun hc => ?_)
        · have hf := (if_pos hc).symm.trans hf
          refine x_ldc2 C dX5_laid_170 173 rfl w994 ?_
          exact x_lret C (hE _ (Option.some.inj hf).symm) dX5_laid_173
        · have hf := (if_neg hc).symm.trans hf
          refine x_lload C dX5_laid_165 167 rfl 7 rfl ?_
          refine x_goto C dX5_laid_167 173 (by decide) ?_
          exact x_lret C (hE _ (Option.some.inj hf).symm) dX5_laid_173
      · have hf := (if_neg hc).symm.trans hf
        refine x_lload C dX5_laid_133 135 rfl 6 rfl ?_
        refine x_iload_n C dX5_laid_135 136 rfl 3 rfl rfl ?_
        refine x_lload C dX5_laid_136 138 rfl 5 rfl ?_
        refine x_aload_n C dX5_laid_138 139 rfl 0 rfl rfl ?_
        obtain ⟨v139, hv139, hf⟩ := x_bind hf
        refine x_getR C dX5_laid_139 142 rfl hv139 cl5 rfl w337 ?_
        obtain ⟨v142, hv142, hf⟩ := x_bind hf
        refine x_getR C dX5_laid_142 145 rfl hv142 cl8 rfl w199 ?_
        refine x_iload_n C dX5_laid_145 146 rfl 2 rfl rfl ?_
        obtain ⟨v146, hv146, hf⟩ := x_bind hf
        refine x_laload C dX5_laid_146 147 rfl hv146 ?_
        obtain ⟨w147, hw147, hf⟩ := x_bind hf
        refine x_callSi C dX5_laid_147 150 rfl (cX10_fitsc hw147) kX10_fits ksX10_fits w997 ⟨rfl, rfl⟩ ⟨Nat.le_of_ble_eq_true rfl, Nat.le_of_ble_eq_true rfl⟩ ⟨Nat.zero_le _, Nat.zero_le _⟩ rfl rfl (Nat.le_of_ble_eq_true rfl) ?_
        refine x_if_eq C dX5_laid_150 157 (by decide) 153 rfl (fun hc => ?_) (fun hc => ?_)
        · have hf := (if_pos hc).symm.trans hf
          refine x_iconst C dX5_laid_157 158 rfl 0 (by decide) ?_
          refine x_istore C dX5_laid_158 160 rfl rfl [(11, .int (0)), (0, .ref (x0)), (1, .int (x1)), (2, .int (x2)), (3, .int (x3)), (4, .long (v8)), (6, .long (v19)), (9, .long (b83))] rfl ?_
          refine x_iload C dX5_laid_160 162 rfl 0 rfl ?_
          refine x_if_eq C dX5_laid_162 170 (by decide) 165 rfl (fun hc => ?_) (fun hc => ?_)
          · have hf := (if_pos hc).symm.trans hf
            refine x_ldc2 C dX5_laid_170 173 rfl w994 ?_
            exact x_lret C (hE _ (Option.some.inj hf).symm) dX5_laid_173
          · have hf := (if_neg hc).symm.trans hf
            refine x_lload C dX5_laid_165 167 rfl 7 rfl ?_
            refine x_goto C dX5_laid_167 173 (by decide) ?_
            exact x_lret C (hE _ (Option.some.inj hf).symm) dX5_laid_173
        · have hf := (if_neg hc).symm.trans hf
          refine x_iconst C dX5_laid_153 154 rfl 1 (by decide) ?_
          refine x_goto C dX5_laid_154 158 (by decide) ?_
          refine x_istore C dX5_laid_158 160 rfl rfl [(11, .int (1)), (0, .ref (x0)), (1, .int (x1)), (2, .int (x2)), (3, .int (x3)), (4, .long (v8)), (6, .long (v19)), (9, .long (b83))] rfl ?_
          refine x_iload C dX5_laid_160 162 rfl 0 rfl ?_
          refine x_if_eq C dX5_laid_162 170 (by decide) 165 rfl (fun hc => ?_) (fun hc => ?_)
          · have hf := (if_pos hc).symm.trans hf
            refine x_ldc2 C dX5_laid_170 173 rfl w994 ?_
            exact x_lret C (hE _ (Option.some.inj hf).symm) dX5_laid_173
          · have hf := (if_neg hc).symm.trans hf
            refine x_lload C dX5_laid_165 167 rfl 7 rfl ?_
            refine x_goto C dX5_laid_167 173 (by decide) ?_
            exact x_lret C (hE _ (Option.some.inj hf).symm) dX5_laid_173
    · have hf := (if_neg hc).symm.trans hf
      refine x_ldc2 C dX5_laid_71 74 rfl w994 ?_
      exact x_lret C (hE _ (Option.some.inj hf).symm) dX5_laid_74
