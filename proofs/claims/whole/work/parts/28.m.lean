/-! methods: X3_addLetters X3_replaceInRow X3_isFirstOf X3_standOn X3_drawStep X3_layTold X3_liesAt X3_makeLeftmost -/
theorem dX3_addLetters_0 : decode cX3_addLetters 0 = .ok (.iconst 0, 1) := by decide +kernel
theorem dX3_addLetters_1 : decode cX3_addLetters 1 = .ok (.istore_n 3, 1) := by decide +kernel
theorem dX3_addLetters_2 : decode cX3_addLetters 2 = .ok (.iload_n 3, 1) := by decide +kernel
theorem dX3_addLetters_3 : decode cX3_addLetters 3 = .ok (.iload_n 1, 1) := by decide +kernel
theorem dX3_addLetters_4 : decode cX3_addLetters 4 = .ok (.if_icmp .ge 49, 3) := by decide +kernel
theorem dX3_addLetters_7 : decode cX3_addLetters 7 = .ok (.aload_n 0, 1) := by decide +kernel
theorem dX3_addLetters_8 : decode cX3_addLetters 8 = .ok (.getfield 25, 3) := by decide +kernel
theorem dX3_addLetters_11 : decode cX3_addLetters 11 = .ok (.sipush 656, 3) := by decide +kernel
theorem dX3_addLetters_14 : decode cX3_addLetters 14 = .ok (.if_icmp .ge 39, 3) := by decide +kernel
theorem dX3_addLetters_17 : decode cX3_addLetters 17 = .ok (.aload_n 0, 1) := by decide +kernel
theorem dX3_addLetters_18 : decode cX3_addLetters 18 = .ok (.getfield 28, 3) := by decide +kernel
theorem dX3_addLetters_21 : decode cX3_addLetters 21 = .ok (.aload_n 0, 1) := by decide +kernel
theorem dX3_addLetters_22 : decode cX3_addLetters 22 = .ok (.getfield 25, 3) := by decide +kernel
theorem dX3_addLetters_25 : decode cX3_addLetters 25 = .ok (.iload_n 2, 1) := by decide +kernel
theorem dX3_addLetters_26 : decode cX3_addLetters 26 = .ok (.iastore, 1) := by decide +kernel
theorem dX3_addLetters_27 : decode cX3_addLetters 27 = .ok (.aload_n 0, 1) := by decide +kernel
theorem dX3_addLetters_28 : decode cX3_addLetters 28 = .ok (.getfield 31, 3) := by decide +kernel
theorem dX3_addLetters_31 : decode cX3_addLetters 31 = .ok (.aload_n 0, 1) := by decide +kernel
theorem dX3_addLetters_32 : decode cX3_addLetters 32 = .ok (.getfield 25, 3) := by decide +kernel
theorem dX3_addLetters_35 : decode cX3_addLetters 35 = .ok (.iconst (-1), 1) := by decide +kernel
theorem dX3_addLetters_36 : decode cX3_addLetters 36 = .ok (.iastore, 1) := by decide +kernel
theorem dX3_addLetters_37 : decode cX3_addLetters 37 = .ok (.aload_n 0, 1) := by decide +kernel
theorem dX3_addLetters_38 : decode cX3_addLetters 38 = .ok (.dup, 1) := by decide +kernel
theorem dX3_addLetters_39 : decode cX3_addLetters 39 = .ok (.getfield 25, 3) := by decide +kernel
theorem dX3_addLetters_42 : decode cX3_addLetters 42 = .ok (.iconst 1, 1) := by decide +kernel
theorem dX3_addLetters_43 : decode cX3_addLetters 43 = .ok (.iadd, 1) := by decide +kernel
theorem dX3_addLetters_44 : decode cX3_addLetters 44 = .ok (.putfield 25, 3) := by decide +kernel
theorem dX3_addLetters_47 : decode cX3_addLetters 47 = .ok (.iinc 3 1, 3) := by decide +kernel
theorem dX3_addLetters_50 : decode cX3_addLetters 50 = .ok (.goto (-48), 3) := by decide +kernel
theorem dX3_addLetters_53 : decode cX3_addLetters 53 = .ok (.return_, 1) := by decide +kernel
abbrev rmX3_addLetters : Room := { frames := 0, cells := 0, slots := 0, locals := 0 }
noncomputable def fLX3_addLetters_2 (x0 : Nat) (x1 : Int32) (x2 : Int32) (a : Int32 × St) : Option ((Int32 × St) ⊕ (St)) :=
if x1 ≤ a.1 then
(some (Sum.inr a.2))
else
((gI a.2 x0 3 5).bind fun v8 =>
if ((656 : Int32)) ≤ v8 then
(some (Sum.inr a.2))
else
((gR a.2 x0 3 6).bind fun v18 =>
(gI a.2 x0 3 5).bind fun v22 =>
(sI a.2 v18 v22 x2).bind fun σ26 =>
(gR σ26 x0 3 7).bind fun v28 =>
(gI σ26 x0 3 5).bind fun v32 =>
(sI σ26 v28 v32 (-1)).bind fun σ36 =>
(gI σ36 x0 3 5).bind fun v39 =>
(wrF σ36 x0 3 5 (.int (v39 + 1))).bind fun σ44 =>
xlet (a.1 + 1) fun v47 =>
some (Sum.inl (v47, σ44))))
set_option maxHeartbeats 4000000 in
set_option maxRecDepth 100000 in
theorem lpX3_addLetters_2 {X : xX} {x0 : Nat} {x1 : Int32} {x2 : Int32}  {a0 : Int32 × St} {b : St} (C : Ok X cX3_addLetters 4 RX3 rmX3_addLetters none) (hb : iterP (fLX3_addLetters_2 x0 x1 x2) a0 = some b) (hy0 : ∀ s, b = s → V X (0, 0) s 53 [] []) : V X (0, 0) a0.2 2 [(0, .ref (x0)), (1, .int (x1)), (2, .int (x2)), (3, .int (a0.1))] [] := by
  obtain ⟨n, hn⟩ := iterP_some hb
  refine x_loop (P := fun a => V X (0, 0) a.2 2 [(0, .ref (x0)), (1, .int (x1)), (2, .int (x2)), (3, .int (a.1))] []) ?_ n a0 hn
  intro a c hf hK hxx
  have hx0 : ∀ s, c = Sum.inr s → V X (0, 0) s 53 [] [] := fun s e => hy0 s (hxx _ e).symm
  unfold fLX3_addLetters_2 at hf
  refine x_iload_n C dX3_addLetters_2 3 rfl 3 rfl rfl ?_
  refine x_iload_n C dX3_addLetters_3 4 rfl 1 rfl rfl ?_
  refine x_icmp_ge C dX3_addLetters_4 53 (by decide) 7 rfl (fun hc => ?_) (fun hc => ?_)
  · have hf := (if_pos hc).symm.trans hf
    refine x_lv [] (lv' := []) rfl ?_
    exact hx0 _ (Option.some.inj hf).symm
  · have hf := (if_neg hc).symm.trans hf
    refine x_aload_n C dX3_addLetters_7 8 rfl 0 rfl rfl ?_
    obtain ⟨v8, hv8, hf⟩ := x_bind hf
    refine x_getI C dX3_addLetters_8 11 rfl hv8 cl3 rfl w463 ?_
    refine x_sipush C dX3_addLetters_11 14 rfl 656 (by decide) ?_
    refine x_icmp_ge C dX3_addLetters_14 53 (by decide) 17 rfl (fun hc => ?_) (fun hc => ?_)
    · have hf := (if_pos hc).symm.trans hf
      refine x_lv [] (lv' := []) rfl ?_
      exact hx0 _ (Option.some.inj hf).symm
    · have hf := (if_neg hc).symm.trans hf
      refine x_aload_n C dX3_addLetters_17 18 rfl 0 rfl rfl ?_
      obtain ⟨v18, hv18, hf⟩ := x_bind hf
      refine x_getR C dX3_addLetters_18 21 rfl hv18 cl3 rfl w464 ?_
      refine x_aload_n C dX3_addLetters_21 22 rfl 0 rfl rfl ?_
      obtain ⟨v22, hv22, hf⟩ := x_bind hf
      refine x_getI C dX3_addLetters_22 25 rfl hv22 cl3 rfl w463 ?_
      refine x_iload_n C dX3_addLetters_25 26 rfl 2 rfl rfl ?_
      obtain ⟨σ26, hσ26, hf⟩ := x_bind hf
      refine x_iastore C dX3_addLetters_26 27 rfl hσ26 ?_
      refine x_aload_n C dX3_addLetters_27 28 rfl 0 rfl rfl ?_
      obtain ⟨v28, hv28, hf⟩ := x_bind hf
      refine x_getR C dX3_addLetters_28 31 rfl hv28 cl3 rfl w465 ?_
      refine x_aload_n C dX3_addLetters_31 32 rfl 0 rfl rfl ?_
      obtain ⟨v32, hv32, hf⟩ := x_bind hf
      refine x_getI C dX3_addLetters_32 35 rfl hv32 cl3 rfl w463 ?_
      refine x_iconst C dX3_addLetters_35 36 rfl (-1) (by decide) ?_
      obtain ⟨σ36, hσ36, hf⟩ := x_bind hf
      refine x_iastore C dX3_addLetters_36 37 rfl hσ36 ?_
      refine x_aload_n C dX3_addLetters_37 38 rfl 0 rfl rfl ?_
      refine x_dup C dX3_addLetters_38 39 rfl rfl ?_
      obtain ⟨v39, hv39, hf⟩ := x_bind hf
      refine x_getI C dX3_addLetters_39 42 rfl hv39 cl3 rfl w463 ?_
      refine x_iconst C dX3_addLetters_42 43 rfl 1 (by decide) ?_
      refine x_iadd C dX3_addLetters_43 44 rfl ?_
      obtain ⟨σ44, hσ44, hf⟩ := x_bind hf
      refine x_putX C dX3_addLetters_44 47 rfl hσ44 cl3 rfl w463 rfl rfl rfl ?_
      obtain ⟨v47, ev47, hf⟩ := xlet_some hf
      refine x_iinc C dX3_addLetters_47 50 rfl 3 rfl v47 ev47 rfl [(3, .int (v47)), (0, .ref (x0)), (1, .int (x1)), (2, .int (x2))] rfl ?_
      refine x_goto C dX3_addLetters_50 2 (by decide) ?_
      refine x_lv [1, 2, 3, 0] (lv' := [(0, .ref (x0)), (1, .int (x1)), (2, .int (x2)), (3, .int (v47))]) rfl ?_
      exact hK _ (Option.some.inj hf).symm
noncomputable def fX3_addLetters (σ : St) (x0 : Nat) (x1 : Int32) (x2 : Int32) : Option (St) :=
(iterP (fLX3_addLetters_2 x0 x1 x2) (0, σ)).bind fun b2 =>
some b2
set_option maxHeartbeats 4000000 in
set_option maxRecDepth 100000 in
theorem cX3_addLettersc {l : Launch} {G : xG} {A : Nat → Prop} {σ : St} {x0 : Nat} {x1 : Int32} {x2 : Int32} {c : St} (hf : fX3_addLetters σ x0 x1 x2 = some c) : Con l yX3_addLetters (xws yX3_addLetters cX3_addLetters 4 none) rmX3_addLetters [.ref (x0), .int (x1), .int (x2)] G A σ none c := by
  refine x_start rfl (Nat.le_of_ble_eq_true rfl) (fun X _ _ _ C hE0 => ?_)
  have hE : ∀ r, c = r → xE1 X none r := fun r e => e ▸ hE0
  show V X (0, 0) σ 0 [(0, .ref (x0)), (1, .int (x1)), (2, .int (x2))] []
  unfold fX3_addLetters at hf
  refine x_iconst C dX3_addLetters_0 1 rfl 0 (by decide) ?_
  refine x_istore_n C dX3_addLetters_1 2 rfl rfl rfl [(3, .int (0)), (0, .ref (x0)), (1, .int (x1)), (2, .int (x2))] rfl ?_
  obtain ⟨b2, hb2, hf⟩ := x_bind hf
  refine x_lv [1, 2, 3, 0] (lv' := [(0, .ref (x0)), (1, .int (x1)), (2, .int (x2)), (3, .int (0))]) rfl ?_
  refine lpX3_addLetters_2 C hb2 (fun s2 e2 => ?_)
  subst e2
  exact x_vret C (hE _ (Option.some.inj hf).symm) dX3_addLetters_53
theorem dX3_replaceInRow_0 : decode cX3_replaceInRow 0 = .ok (.aload_n 0, 1) := by decide +kernel
theorem dX3_replaceInRow_1 : decode cX3_replaceInRow 1 = .ok (.getfield 22, 3) := by decide +kernel
theorem dX3_replaceInRow_4 : decode cX3_replaceInRow 4 = .ok (.iload_n 1, 1) := by decide +kernel
theorem dX3_replaceInRow_5 : decode cX3_replaceInRow 5 = .ok (.isub, 1) := by decide +kernel
theorem dX3_replaceInRow_6 : decode cX3_replaceInRow 6 = .ok (.aload_n 0, 1) := by decide +kernel
theorem dX3_replaceInRow_7 : decode cX3_replaceInRow 7 = .ok (.getfield 37, 3) := by decide +kernel
theorem dX3_replaceInRow_10 : decode cX3_replaceInRow 10 = .ok (.iload_n 2, 1) := by decide +kernel
theorem dX3_replaceInRow_11 : decode cX3_replaceInRow 11 = .ok (.iaload, 1) := by decide +kernel
theorem dX3_replaceInRow_12 : decode cX3_replaceInRow 12 = .ok (.isub, 1) := by decide +kernel
theorem dX3_replaceInRow_13 : decode cX3_replaceInRow 13 = .ok (.istore_n 3, 1) := by decide +kernel
theorem dX3_replaceInRow_14 : decode cX3_replaceInRow 14 = .ok (.iload_n 3, 1) := by decide +kernel
theorem dX3_replaceInRow_15 : decode cX3_replaceInRow 15 = .ok (.ifCond .lt 19, 3) := by decide +kernel
theorem dX3_replaceInRow_18 : decode cX3_replaceInRow 18 = .ok (.iload_n 1, 1) := by decide +kernel
theorem dX3_replaceInRow_19 : decode cX3_replaceInRow 19 = .ok (.aload_n 0, 1) := by decide +kernel
theorem dX3_replaceInRow_20 : decode cX3_replaceInRow 20 = .ok (.getfield 40, 3) := by decide +kernel
theorem dX3_replaceInRow_23 : decode cX3_replaceInRow 23 = .ok (.iload_n 2, 1) := by decide +kernel
theorem dX3_replaceInRow_24 : decode cX3_replaceInRow 24 = .ok (.iaload, 1) := by decide +kernel
theorem dX3_replaceInRow_25 : decode cX3_replaceInRow 25 = .ok (.iadd, 1) := by decide +kernel
theorem dX3_replaceInRow_26 : decode cX3_replaceInRow 26 = .ok (.iload_n 3, 1) := by decide +kernel
theorem dX3_replaceInRow_27 : decode cX3_replaceInRow 27 = .ok (.iadd, 1) := by decide +kernel
theorem dX3_replaceInRow_28 : decode cX3_replaceInRow 28 = .ok (.sipush 656, 3) := by decide +kernel
theorem dX3_replaceInRow_31 : decode cX3_replaceInRow 31 = .ok (.if_icmp .le 4, 3) := by decide +kernel
theorem dX3_replaceInRow_34 : decode cX3_replaceInRow 34 = .ok (.return_, 1) := by decide +kernel
theorem dX3_replaceInRow_35 : decode cX3_replaceInRow 35 = .ok (.aload_n 0, 1) := by decide +kernel
theorem dX3_replaceInRow_36 : decode cX3_replaceInRow 36 = .ok (.getfield 18, 3) := by decide +kernel
theorem dX3_replaceInRow_39 : decode cX3_replaceInRow 39 = .ok (.iload_n 1, 1) := by decide +kernel
theorem dX3_replaceInRow_40 : decode cX3_replaceInRow 40 = .ok (.aload_n 0, 1) := by decide +kernel
theorem dX3_replaceInRow_41 : decode cX3_replaceInRow 41 = .ok (.getfield 37, 3) := by decide +kernel
theorem dX3_replaceInRow_44 : decode cX3_replaceInRow 44 = .ok (.iload_n 2, 1) := by decide +kernel
theorem dX3_replaceInRow_45 : decode cX3_replaceInRow 45 = .ok (.iaload, 1) := by decide +kernel
theorem dX3_replaceInRow_46 : decode cX3_replaceInRow 46 = .ok (.iadd, 1) := by decide +kernel
theorem dX3_replaceInRow_47 : decode cX3_replaceInRow 47 = .ok (.aload_n 0, 1) := by decide +kernel
theorem dX3_replaceInRow_48 : decode cX3_replaceInRow 48 = .ok (.getfield 18, 3) := by decide +kernel
theorem dX3_replaceInRow_51 : decode cX3_replaceInRow 51 = .ok (.iload_n 1, 1) := by decide +kernel
theorem dX3_replaceInRow_52 : decode cX3_replaceInRow 52 = .ok (.aload_n 0, 1) := by decide +kernel
theorem dX3_replaceInRow_53 : decode cX3_replaceInRow 53 = .ok (.getfield 40, 3) := by decide +kernel
theorem dX3_replaceInRow_56 : decode cX3_replaceInRow 56 = .ok (.iload_n 2, 1) := by decide +kernel
theorem dX3_replaceInRow_57 : decode cX3_replaceInRow 57 = .ok (.iaload, 1) := by decide +kernel
theorem dX3_replaceInRow_58 : decode cX3_replaceInRow 58 = .ok (.iadd, 1) := by decide +kernel
theorem dX3_replaceInRow_59 : decode cX3_replaceInRow 59 = .ok (.iload_n 3, 1) := by decide +kernel
theorem dX3_replaceInRow_60 : decode cX3_replaceInRow 60 = .ok (.invokestatic 130, 3) := by decide +kernel
theorem dX3_replaceInRow_63 : decode cX3_replaceInRow 63 = .ok (.iconst 0, 1) := by decide +kernel
theorem dX3_replaceInRow_64 : decode cX3_replaceInRow 64 = .ok (.istore 4, 2) := by decide +kernel
theorem dX3_replaceInRow_66 : decode cX3_replaceInRow 66 = .ok (.iload 4, 2) := by decide +kernel
theorem dX3_replaceInRow_68 : decode cX3_replaceInRow 68 = .ok (.aload_n 0, 1) := by decide +kernel
theorem dX3_replaceInRow_69 : decode cX3_replaceInRow 69 = .ok (.getfield 40, 3) := by decide +kernel
theorem dX3_replaceInRow_72 : decode cX3_replaceInRow 72 = .ok (.iload_n 2, 1) := by decide +kernel
theorem dX3_replaceInRow_73 : decode cX3_replaceInRow 73 = .ok (.iaload, 1) := by decide +kernel
theorem dX3_replaceInRow_74 : decode cX3_replaceInRow 74 = .ok (.if_icmp .ge 27, 3) := by decide +kernel
theorem dX3_replaceInRow_77 : decode cX3_replaceInRow 77 = .ok (.aload_n 0, 1) := by decide +kernel
theorem dX3_replaceInRow_78 : decode cX3_replaceInRow 78 = .ok (.getfield 18, 3) := by decide +kernel
theorem dX3_replaceInRow_81 : decode cX3_replaceInRow 81 = .ok (.iload_n 1, 1) := by decide +kernel
theorem dX3_replaceInRow_82 : decode cX3_replaceInRow 82 = .ok (.iload 4, 2) := by decide +kernel
theorem dX3_replaceInRow_84 : decode cX3_replaceInRow 84 = .ok (.iadd, 1) := by decide +kernel
theorem dX3_replaceInRow_85 : decode cX3_replaceInRow 85 = .ok (.aload_n 0, 1) := by decide +kernel
theorem dX3_replaceInRow_86 : decode cX3_replaceInRow 86 = .ok (.getfield 43, 3) := by decide +kernel
theorem dX3_replaceInRow_89 : decode cX3_replaceInRow 89 = .ok (.iload_n 2, 1) := by decide +kernel
theorem dX3_replaceInRow_90 : decode cX3_replaceInRow 90 = .ok (.iaload, 1) := by decide +kernel
theorem dX3_replaceInRow_91 : decode cX3_replaceInRow 91 = .ok (.iload 4, 2) := by decide +kernel
theorem dX3_replaceInRow_93 : decode cX3_replaceInRow 93 = .ok (.iadd, 1) := by decide +kernel
theorem dX3_replaceInRow_94 : decode cX3_replaceInRow 94 = .ok (.iastore, 1) := by decide +kernel
theorem dX3_replaceInRow_95 : decode cX3_replaceInRow 95 = .ok (.iinc 4 1, 3) := by decide +kernel
theorem dX3_replaceInRow_98 : decode cX3_replaceInRow 98 = .ok (.goto (-32), 3) := by decide +kernel
theorem dX3_replaceInRow_101 : decode cX3_replaceInRow 101 = .ok (.aload_n 0, 1) := by decide +kernel
theorem dX3_replaceInRow_102 : decode cX3_replaceInRow 102 = .ok (.iload_n 1, 1) := by decide +kernel
theorem dX3_replaceInRow_103 : decode cX3_replaceInRow 103 = .ok (.aload_n 0, 1) := by decide +kernel
theorem dX3_replaceInRow_104 : decode cX3_replaceInRow 104 = .ok (.getfield 40, 3) := by decide +kernel
theorem dX3_replaceInRow_107 : decode cX3_replaceInRow 107 = .ok (.iload_n 2, 1) := by decide +kernel
theorem dX3_replaceInRow_108 : decode cX3_replaceInRow 108 = .ok (.iaload, 1) := by decide +kernel
theorem dX3_replaceInRow_109 : decode cX3_replaceInRow 109 = .ok (.iadd, 1) := by decide +kernel
theorem dX3_replaceInRow_110 : decode cX3_replaceInRow 110 = .ok (.iload_n 3, 1) := by decide +kernel
theorem dX3_replaceInRow_111 : decode cX3_replaceInRow 111 = .ok (.iadd, 1) := by decide +kernel
theorem dX3_replaceInRow_112 : decode cX3_replaceInRow 112 = .ok (.putfield 22, 3) := by decide +kernel
theorem dX3_replaceInRow_115 : decode cX3_replaceInRow 115 = .ok (.return_, 1) := by decide +kernel
abbrev rmX3_replaceInRow : Room := { frames := 1, cells := 0, slots := 0, locals := 60 }
noncomputable def fLX3_replaceInRow_66 (x0 : Nat) (x1 : Int32) (x2 : Int32) (x3 : Int32) (a : Int32 × St) : Option ((Int32 × St) ⊕ (St)) :=
(gR a.2 x0 3 10).bind fun v69 =>
(aI a.2 v69 0 x2).bind fun v73 =>
if v73 ≤ a.1 then
(some (Sum.inr a.2))
else
((gR a.2 x0 3 3).bind fun v78 =>
(gR a.2 x0 3 11).bind fun v86 =>
(aI a.2 v86 0 x2).bind fun v90 =>
(sI a.2 v78 (x1 + a.1) (v90 + a.1)).bind fun σ94 =>
xlet (a.1 + 1) fun v95 =>
some (Sum.inl (v95, σ94)))
set_option maxHeartbeats 4000000 in
set_option maxRecDepth 100000 in
theorem lpX3_replaceInRow_66 {X : xX} {x0 : Nat} {x1 : Int32} {x2 : Int32} {x3 : Int32}  {a0 : Int32 × St} {b : St} (C : Ok X cX3_replaceInRow 5 RX3 rmX3_replaceInRow none) (hb : iterP (fLX3_replaceInRow_66 x0 x1 x2 x3) a0 = some b) (hy0 : ∀ s, b = s → V X (0, 0) s 101 [(0, .ref (x0)), (1, .int (x1)), (2, .int (x2)), (3, .int (x3))] []) : V X (0, 0) a0.2 66 [(0, .ref (x0)), (1, .int (x1)), (2, .int (x2)), (3, .int (x3)), (4, .int (a0.1))] [] := by
  obtain ⟨n, hn⟩ := iterP_some hb
  refine x_loop (P := fun a => V X (0, 0) a.2 66 [(0, .ref (x0)), (1, .int (x1)), (2, .int (x2)), (3, .int (x3)), (4, .int (a.1))] []) ?_ n a0 hn
  intro a c hf hK hxx
  have hx0 : ∀ s, c = Sum.inr s → V X (0, 0) s 101 [(0, .ref (x0)), (1, .int (x1)), (2, .int (x2)), (3, .int (x3))] [] := fun s e => hy0 s (hxx _ e).symm
  unfold fLX3_replaceInRow_66 at hf
  refine x_iload C dX3_replaceInRow_66 68 rfl 4 rfl ?_
  refine x_aload_n C dX3_replaceInRow_68 69 rfl 0 rfl rfl ?_
  obtain ⟨v69, hv69, hf⟩ := x_bind hf
  refine x_getR C dX3_replaceInRow_69 72 rfl hv69 cl3 rfl w468 ?_
  refine x_iload_n C dX3_replaceInRow_72 73 rfl 2 rfl rfl ?_
  obtain ⟨v73, hv73, hf⟩ := x_bind hf
  refine x_iaload C dX3_replaceInRow_73 74 rfl hv73 ?_
  refine x_icmp_ge C dX3_replaceInRow_74 101 (by decide) 77 rfl (fun hc => ?_) (fun hc => ?_)
  · have hf := (if_pos hc).symm.trans hf
    refine x_lv [0, 1, 2, 3] (lv' := [(0, .ref (x0)), (1, .int (x1)), (2, .int (x2)), (3, .int (x3))]) rfl ?_
    exact hx0 _ (Option.some.inj hf).symm
  · have hf := (if_neg hc).symm.trans hf
    refine x_aload_n C dX3_replaceInRow_77 78 rfl 0 rfl rfl ?_
    obtain ⟨v78, hv78, hf⟩ := x_bind hf
    refine x_getR C dX3_replaceInRow_78 81 rfl hv78 cl3 rfl w461 ?_
    refine x_iload_n C dX3_replaceInRow_81 82 rfl 1 rfl rfl ?_
    refine x_iload C dX3_replaceInRow_82 84 rfl 4 rfl ?_
    refine x_iadd C dX3_replaceInRow_84 85 rfl ?_
    refine x_aload_n C dX3_replaceInRow_85 86 rfl 0 rfl rfl ?_
    obtain ⟨v86, hv86, hf⟩ := x_bind hf
    refine x_getR C dX3_replaceInRow_86 89 rfl hv86 cl3 rfl w469 ?_
    refine x_iload_n C dX3_replaceInRow_89 90 rfl 2 rfl rfl ?_
    obtain ⟨v90, hv90, hf⟩ := x_bind hf
    refine x_iaload C dX3_replaceInRow_90 91 rfl hv90 ?_
    refine x_iload C dX3_replaceInRow_91 93 rfl 4 rfl ?_
    refine x_iadd C dX3_replaceInRow_93 94 rfl ?_
    obtain ⟨σ94, hσ94, hf⟩ := x_bind hf
    refine x_iastore C dX3_replaceInRow_94 95 rfl hσ94 ?_
    obtain ⟨v95, ev95, hf⟩ := xlet_some hf
    refine x_iinc C dX3_replaceInRow_95 98 rfl 4 rfl v95 ev95 rfl [(4, .int (v95)), (0, .ref (x0)), (1, .int (x1)), (2, .int (x2)), (3, .int (x3))] rfl ?_
    refine x_goto C dX3_replaceInRow_98 66 (by decide) ?_
    refine x_lv [1, 2, 3, 4, 0] (lv' := [(0, .ref (x0)), (1, .int (x1)), (2, .int (x2)), (3, .int (x3)), (4, .int (v95))]) rfl ?_
    exact hK _ (Option.some.inj hf).symm
noncomputable def fX3_replaceInRow (σ : St) (x0 : Nat) (x1 : Int32) (x2 : Int32) : Option (St) :=
(gI σ x0 3 4).bind fun v1 =>
(gR σ x0 3 9).bind fun v7 =>
(aI σ v7 0 x2).bind fun v11 =>
xlet ((v1 - x1) - v11) fun v13 =>
if v13 < 0 then
(some σ)
else
((gR σ x0 3 10).bind fun v20 =>
(aI σ v20 0 x2).bind fun v24 =>
if ((x1 + v24) + v13) ≤ ((656 : Int32)) then
((gR σ x0 3 3).bind fun v36 =>
(gR σ x0 3 9).bind fun v41 =>
(aI σ v41 0 x2).bind fun v45 =>
(gR σ x0 3 3).bind fun v48 =>
(gR σ x0 3 10).bind fun v53 =>
(aI σ v53 0 x2).bind fun v57 =>
(acI σ v36 (x1 + v45) v48 (x1 + v57) v13).bind fun σ60 =>
(iterP (fLX3_replaceInRow_66 x0 x1 x2 v13) (0, σ60)).bind fun b66 =>
(gR b66 x0 3 10).bind fun v104 =>
(aI b66 v104 0 x2).bind fun v108 =>
(wrF b66 x0 3 4 (.int ((x1 + v108) + v13))).bind fun σ112 =>
some σ112)
else
(some σ))
set_option maxHeartbeats 4000000 in
set_option maxRecDepth 100000 in
theorem cX3_replaceInRowc {l : Launch} {G : xG} {A : Nat → Prop} {σ : St} {x0 : Nat} {x1 : Int32} {x2 : Int32} {c : St} (hf : fX3_replaceInRow σ x0 x1 x2 = some c) : Con l yX3_replaceInRow (xws yX3_replaceInRow cX3_replaceInRow 5 none) rmX3_replaceInRow [.ref (x0), .int (x1), .int (x2)] G A σ none c := by
  refine x_start rfl (Nat.le_of_ble_eq_true rfl) (fun X _ _ _ C hE0 => ?_)
  have hE : ∀ r, c = r → xE1 X none r := fun r e => e ▸ hE0
  show V X (0, 0) σ 0 [(0, .ref (x0)), (1, .int (x1)), (2, .int (x2))] []
  unfold fX3_replaceInRow at hf
  refine x_aload_n C dX3_replaceInRow_0 1 rfl 0 rfl rfl ?_
  obtain ⟨v1, hv1, hf⟩ := x_bind hf
  refine x_getI C dX3_replaceInRow_1 4 rfl hv1 cl3 rfl w462 ?_
  refine x_iload_n C dX3_replaceInRow_4 5 rfl 1 rfl rfl ?_
  refine x_isub C dX3_replaceInRow_5 6 rfl ?_
  refine x_aload_n C dX3_replaceInRow_6 7 rfl 0 rfl rfl ?_
  obtain ⟨v7, hv7, hf⟩ := x_bind hf
  refine x_getR C dX3_replaceInRow_7 10 rfl hv7 cl3 rfl w467 ?_
  refine x_iload_n C dX3_replaceInRow_10 11 rfl 2 rfl rfl ?_
  obtain ⟨v11, hv11, hf⟩ := x_bind hf
  refine x_iaload C dX3_replaceInRow_11 12 rfl hv11 ?_
  refine x_isub C dX3_replaceInRow_12 13 rfl ?_
  obtain ⟨v13, ev13, hf⟩ := xlet_some hf
  refine x_topi ev13 ?_
  refine x_istore_n C dX3_replaceInRow_13 14 rfl rfl rfl [(3, .int (v13)), (0, .ref (x0)), (1, .int (x1)), (2, .int (x2))] rfl ?_
  refine x_iload_n C dX3_replaceInRow_14 15 rfl 0 rfl rfl ?_
  refine x_if_lt C dX3_replaceInRow_15 34 (by decide) 18 rfl (fun hc => ?_) (fun hc => ?_)
  · have hf := (if_pos hc).symm.trans hf
    exact x_vret C (hE _ (Option.some.inj hf).symm) dX3_replaceInRow_34
  · have hf := (if_neg hc).symm.trans hf
    refine x_iload_n C dX3_replaceInRow_18 19 rfl 2 rfl rfl ?_
    refine x_aload_n C dX3_replaceInRow_19 20 rfl 1 rfl rfl ?_
    obtain ⟨v20, hv20, hf⟩ := x_bind hf
    refine x_getR C dX3_replaceInRow_20 23 rfl hv20 cl3 rfl w468 ?_
    refine x_iload_n C dX3_replaceInRow_23 24 rfl 3 rfl rfl ?_
    obtain ⟨v24, hv24, hf⟩ := x_bind hf
    refine x_iaload C dX3_replaceInRow_24 25 rfl hv24 ?_
    refine x_iadd C dX3_replaceInRow_25 26 rfl ?_
    refine x_iload_n C dX3_replaceInRow_26 27 rfl 0 rfl rfl ?_
    refine x_iadd C dX3_replaceInRow_27 28 rfl ?_
    refine x_sipush C dX3_replaceInRow_28 31 rfl 656 (by decide) ?_
    refine x_icmp_le C dX3_replaceInRow_31 35 (by decide) 34 rfl (fun hc => ?_) (fun hc => ?_)
    · have hf := (if_pos hc).symm.trans hf
      refine x_aload_n C dX3_replaceInRow_35 36 rfl 1 rfl rfl ?_
      obtain ⟨v36, hv36, hf⟩ := x_bind hf
      refine x_getR C dX3_replaceInRow_36 39 rfl hv36 cl3 rfl w461 ?_
      refine x_iload_n C dX3_replaceInRow_39 40 rfl 2 rfl rfl ?_
      refine x_aload_n C dX3_replaceInRow_40 41 rfl 1 rfl rfl ?_
      obtain ⟨v41, hv41, hf⟩ := x_bind hf
      refine x_getR C dX3_replaceInRow_41 44 rfl hv41 cl3 rfl w467 ?_
      refine x_iload_n C dX3_replaceInRow_44 45 rfl 3 rfl rfl ?_
      obtain ⟨v45, hv45, hf⟩ := x_bind hf
      refine x_iaload C dX3_replaceInRow_45 46 rfl hv45 ?_
      refine x_iadd C dX3_replaceInRow_46 47 rfl ?_
      refine x_aload_n C dX3_replaceInRow_47 48 rfl 1 rfl rfl ?_
      obtain ⟨v48, hv48, hf⟩ := x_bind hf
      refine x_getR C dX3_replaceInRow_48 51 rfl hv48 cl3 rfl w461 ?_
      refine x_iload_n C dX3_replaceInRow_51 52 rfl 2 rfl rfl ?_
      refine x_aload_n C dX3_replaceInRow_52 53 rfl 1 rfl rfl ?_
      obtain ⟨v53, hv53, hf⟩ := x_bind hf
      refine x_getR C dX3_replaceInRow_53 56 rfl hv53 cl3 rfl w468 ?_
      refine x_iload_n C dX3_replaceInRow_56 57 rfl 3 rfl rfl ?_
      obtain ⟨v57, hv57, hf⟩ := x_bind hf
      refine x_iaload C dX3_replaceInRow_57 58 rfl hv57 ?_
      refine x_iadd C dX3_replaceInRow_58 59 rfl ?_
      refine x_iload_n C dX3_replaceInRow_59 60 rfl 0 rfl rfl ?_
      obtain ⟨σ60, hσ60, hf⟩ := x_bind hf
      refine x_copyI C dX3_replaceInRow_60 63 rfl w1187 acw ⟨Nat.le_of_ble_eq_true rfl, Nat.le_of_ble_eq_true rfl⟩ hσ60 ?_
      refine x_iconst C dX3_replaceInRow_63 64 rfl 0 (by decide) ?_
      refine x_istore C dX3_replaceInRow_64 66 rfl rfl [(4, .int (0)), (3, .int (v13)), (0, .ref (x0)), (1, .int (x1)), (2, .int (x2))] rfl ?_
      obtain ⟨b66, hb66, hf⟩ := x_bind hf
      refine x_lv [2, 3, 4, 1, 0] (lv' := [(0, .ref (x0)), (1, .int (x1)), (2, .int (x2)), (3, .int (v13)), (4, .int (0))]) rfl ?_
      refine lpX3_replaceInRow_66 C hb66 (fun s66 e66 => ?_)
      subst e66
      refine x_aload_n C dX3_replaceInRow_101 102 rfl 0 rfl rfl ?_
      refine x_iload_n C dX3_replaceInRow_102 103 rfl 1 rfl rfl ?_
      refine x_aload_n C dX3_replaceInRow_103 104 rfl 0 rfl rfl ?_
      obtain ⟨v104, hv104, hf⟩ := x_bind hf
      refine x_getR C dX3_replaceInRow_104 107 rfl hv104 cl3 rfl w468 ?_
      refine x_iload_n C dX3_replaceInRow_107 108 rfl 2 rfl rfl ?_
      obtain ⟨v108, hv108, hf⟩ := x_bind hf
      refine x_iaload C dX3_replaceInRow_108 109 rfl hv108 ?_
      refine x_iadd C dX3_replaceInRow_109 110 rfl ?_
      refine x_iload_n C dX3_replaceInRow_110 111 rfl 3 rfl rfl ?_
      refine x_iadd C dX3_replaceInRow_111 112 rfl ?_
      obtain ⟨σ112, hσ112, hf⟩ := x_bind hf
      refine x_putX C dX3_replaceInRow_112 115 rfl hσ112 cl3 rfl w462 rfl rfl rfl ?_
      exact x_vret C (hE _ (Option.some.inj hf).symm) dX3_replaceInRow_115
    · have hf := (if_neg hc).symm.trans hf
      exact x_vret C (hE _ (Option.some.inj hf).symm) dX3_replaceInRow_34
theorem dX3_isFirstOf_0 : decode cX3_isFirstOf 0 = .ok (.iconst 0, 1) := by decide +kernel
theorem dX3_isFirstOf_1 : decode cX3_isFirstOf 1 = .ok (.istore 4, 2) := by decide +kernel
theorem dX3_isFirstOf_3 : decode cX3_isFirstOf 3 = .ok (.iload 4, 2) := by decide +kernel
theorem dX3_isFirstOf_5 : decode cX3_isFirstOf 5 = .ok (.iload_n 2, 1) := by decide +kernel
theorem dX3_isFirstOf_6 : decode cX3_isFirstOf 6 = .ok (.if_icmp .ge 32, 3) := by decide +kernel
theorem dX3_isFirstOf_9 : decode cX3_isFirstOf 9 = .ok (.aload_n 0, 1) := by decide +kernel
theorem dX3_isFirstOf_10 : decode cX3_isFirstOf 10 = .ok (.getfield 28, 3) := by decide +kernel
theorem dX3_isFirstOf_13 : decode cX3_isFirstOf 13 = .ok (.aload_n 0, 1) := by decide +kernel
theorem dX3_isFirstOf_14 : decode cX3_isFirstOf 14 = .ok (.getfield 34, 3) := by decide +kernel
theorem dX3_isFirstOf_17 : decode cX3_isFirstOf 17 = .ok (.iload_n 1, 1) := by decide +kernel
theorem dX3_isFirstOf_18 : decode cX3_isFirstOf 18 = .ok (.bipush 16, 2) := by decide +kernel
theorem dX3_isFirstOf_20 : decode cX3_isFirstOf 20 = .ok (.imul, 1) := by decide +kernel
theorem dX3_isFirstOf_21 : decode cX3_isFirstOf 21 = .ok (.iload 4, 2) := by decide +kernel
theorem dX3_isFirstOf_23 : decode cX3_isFirstOf 23 = .ok (.iadd, 1) := by decide +kernel
theorem dX3_isFirstOf_24 : decode cX3_isFirstOf 24 = .ok (.iaload, 1) := by decide +kernel
theorem dX3_isFirstOf_25 : decode cX3_isFirstOf 25 = .ok (.iaload, 1) := by decide +kernel
theorem dX3_isFirstOf_26 : decode cX3_isFirstOf 26 = .ok (.iload_n 3, 1) := by decide +kernel
theorem dX3_isFirstOf_27 : decode cX3_isFirstOf 27 = .ok (.if_icmp .ne 5, 3) := by decide +kernel
theorem dX3_isFirstOf_30 : decode cX3_isFirstOf 30 = .ok (.iconst 0, 1) := by decide +kernel
theorem dX3_isFirstOf_31 : decode cX3_isFirstOf 31 = .ok (.ireturn, 1) := by decide +kernel
theorem dX3_isFirstOf_32 : decode cX3_isFirstOf 32 = .ok (.iinc 4 1, 3) := by decide +kernel
theorem dX3_isFirstOf_35 : decode cX3_isFirstOf 35 = .ok (.goto (-32), 3) := by decide +kernel
theorem dX3_isFirstOf_38 : decode cX3_isFirstOf 38 = .ok (.iconst 1, 1) := by decide +kernel
theorem dX3_isFirstOf_39 : decode cX3_isFirstOf 39 = .ok (.ireturn, 1) := by decide +kernel
abbrev rmX3_isFirstOf : Room := { frames := 0, cells := 0, slots := 0, locals := 0 }
noncomputable def fLX3_isFirstOf_3 (σ : St) (x0 : Nat) (x1 : Int32) (x2 : Int32) (x3 : Int32) (a : Int32) : Option ((Int32) ⊕ ((Unit) ⊕ (Unit))) :=
if x2 ≤ a then
(some (Sum.inr (Sum.inr ())))
else
((gR σ x0 3 6).bind fun v10 =>
(gR σ x0 3 8).bind fun v14 =>
(aI σ v14 0 ((x1 * 16) + a)).bind fun v24 =>
(aI σ v10 0 v24).bind fun v25 =>
if v25 = x3 then
(some (Sum.inr (Sum.inl ())))
else
(xlet (a + 1) fun v32 =>
some (Sum.inl v32)))
set_option maxHeartbeats 4000000 in
set_option maxRecDepth 100000 in
theorem lpX3_isFirstOf_3 {X : xX} {σ : St} {x0 : Nat} {x1 : Int32} {x2 : Int32} {x3 : Int32}  {a0 : Int32} {b : (Unit) ⊕ (Unit)} (C : Ok X cX3_isFirstOf 5 RX3 rmX3_isFirstOf (some .boolean)) (hb : iterP (fLX3_isFirstOf_3 σ x0 x1 x2 x3) a0 = some b) (hy0 : ∀ s, b = (Sum.inl s) → V X (0, 0) σ 30 [] []) (hy1 : ∀ s, b = (Sum.inr s) → V X (0, 0) σ 38 [] []) : V X (0, 0) σ 3 [(0, .ref (x0)), (1, .int (x1)), (2, .int (x2)), (3, .int (x3)), (4, .int (a0))] [] := by
  obtain ⟨n, hn⟩ := iterP_some hb
  refine x_loop (P := fun a => V X (0, 0) σ 3 [(0, .ref (x0)), (1, .int (x1)), (2, .int (x2)), (3, .int (x3)), (4, .int (a))] []) ?_ n a0 hn
  intro a c hf hK hxx
  have hx0 : ∀ s, c = Sum.inr (Sum.inl s) → V X (0, 0) σ 30 [] [] := fun s e => hy0 s (hxx _ e).symm
  have hx1 : ∀ s, c = Sum.inr (Sum.inr s) → V X (0, 0) σ 38 [] [] := fun s e => hy1 s (hxx _ e).symm
  unfold fLX3_isFirstOf_3 at hf
  refine x_iload C dX3_isFirstOf_3 5 rfl 4 rfl ?_
  refine x_iload_n C dX3_isFirstOf_5 6 rfl 2 rfl rfl ?_
  refine x_icmp_ge C dX3_isFirstOf_6 38 (by decide) 9 rfl (fun hc => ?_) (fun hc => ?_)
  · have hf := (if_pos hc).symm.trans hf
    refine x_lv [] (lv' := []) rfl ?_
    exact hx1 _ (Option.some.inj hf).symm
  · have hf := (if_neg hc).symm.trans hf
    refine x_aload_n C dX3_isFirstOf_9 10 rfl 0 rfl rfl ?_
    obtain ⟨v10, hv10, hf⟩ := x_bind hf
    refine x_getR C dX3_isFirstOf_10 13 rfl hv10 cl3 rfl w464 ?_
    refine x_aload_n C dX3_isFirstOf_13 14 rfl 0 rfl rfl ?_
    obtain ⟨v14, hv14, hf⟩ := x_bind hf
    refine x_getR C dX3_isFirstOf_14 17 rfl hv14 cl3 rfl w466 ?_
    refine x_iload_n C dX3_isFirstOf_17 18 rfl 1 rfl rfl ?_
    refine x_bipush C dX3_isFirstOf_18 20 rfl 16 (by decide) ?_
    refine x_imul C dX3_isFirstOf_20 21 rfl ?_
    refine x_iload C dX3_isFirstOf_21 23 rfl 4 rfl ?_
    refine x_iadd C dX3_isFirstOf_23 24 rfl ?_
    obtain ⟨v24, hv24, hf⟩ := x_bind hf
    refine x_iaload C dX3_isFirstOf_24 25 rfl hv24 ?_
    obtain ⟨v25, hv25, hf⟩ := x_bind hf
    refine x_iaload C dX3_isFirstOf_25 26 rfl hv25 ?_
    refine x_iload_n C dX3_isFirstOf_26 27 rfl 3 rfl rfl ?_
    refine x_icmp_ne C dX3_isFirstOf_27 32 (by decide) 30 rfl (fun hc => ?_) (fun hc => ?_)
    · have hf := (if_neg hc).symm.trans hf
      obtain ⟨v32, ev32, hf⟩ := xlet_some hf
      refine x_iinc C dX3_isFirstOf_32 35 rfl 4 rfl v32 ev32 rfl [(4, .int (v32)), (0, .ref (x0)), (1, .int (x1)), (2, .int (x2)), (3, .int (x3))] rfl ?_
      refine x_goto C dX3_isFirstOf_35 3 (by decide) ?_
      refine x_lv [1, 2, 3, 4, 0] (lv' := [(0, .ref (x0)), (1, .int (x1)), (2, .int (x2)), (3, .int (x3)), (4, .int (v32))]) rfl ?_
      exact hK _ (Option.some.inj hf).symm
    · have hf := (if_pos hc).symm.trans hf
      refine x_lv [] (lv' := []) rfl ?_
      exact hx0 _ (Option.some.inj hf).symm
noncomputable def fX3_isFirstOf (σ : St) (x0 : Nat) (x1 : Int32) (x2 : Int32) (x3 : Int32) : Option (Int32) :=
(iterP (fLX3_isFirstOf_3 σ x0 x1 x2 x3) 0).bind fun b3 =>
(match b3 with
| .inl s3 =>
some 0
| .inr s3 =>
some 1)
set_option maxHeartbeats 4000000 in
set_option maxRecDepth 100000 in
theorem cX3_isFirstOfc {l : Launch} {G : xG} {A : Nat → Prop} {σ : St} {x0 : Nat} {x1 : Int32} {x2 : Int32} {x3 : Int32} {c : Int32} (hf : fX3_isFirstOf σ x0 x1 x2 x3 = some c) : Con l yX3_isFirstOf (xws yX3_isFirstOf cX3_isFirstOf 5 (some .boolean)) rmX3_isFirstOf [.ref (x0), .int (x1), .int (x2), .int (x3)] G A σ (some (.int c)) σ := by
  refine x_start rfl (Nat.le_of_ble_eq_true rfl) (fun X _ _ _ C hE0 => ?_)
  have hE : ∀ r, c = r → xE1 X (some (.int r)) σ := fun r e => e ▸ hE0
  show V X (0, 0) σ 0 [(0, .ref (x0)), (1, .int (x1)), (2, .int (x2)), (3, .int (x3))] []
  unfold fX3_isFirstOf at hf
  refine x_iconst C dX3_isFirstOf_0 1 rfl 0 (by decide) ?_
  refine x_istore C dX3_isFirstOf_1 3 rfl rfl [(4, .int (0)), (0, .ref (x0)), (1, .int (x1)), (2, .int (x2)), (3, .int (x3))] rfl ?_
  obtain ⟨b3, hb3, hf⟩ := x_bind hf
  refine x_lv [1, 2, 3, 4, 0] (lv' := [(0, .ref (x0)), (1, .int (x1)), (2, .int (x2)), (3, .int (x3)), (4, .int (0))]) rfl ?_
  refine lpX3_isFirstOf_3 C hb3 (fun s3 e3 => ?_) (fun s3 e3 => ?_)
  · subst e3
    try dsimp only at hf
    refine x_iconst C dX3_isFirstOf_30 31 rfl 0 (by decide) ?_
    exact x_zret C rfl (hE _ (Option.some.inj hf).symm) dX3_isFirstOf_31
  · subst e3
    try dsimp only at hf
    refine x_iconst C dX3_isFirstOf_38 39 rfl 1 (by decide) ?_
    exact x_zret C rfl (hE _ (Option.some.inj hf).symm) dX3_isFirstOf_39
theorem dX3_standOn_0 : decode cX3_standOn 0 = .ok (.iconst 0, 1) := by decide +kernel
theorem dX3_standOn_1 : decode cX3_standOn 1 = .ok (.istore_n 2, 1) := by decide +kernel
theorem dX3_standOn_2 : decode cX3_standOn 2 = .ok (.aload_n 0, 1) := by decide +kernel
theorem dX3_standOn_3 : decode cX3_standOn 3 = .ok (.getfield 49, 3) := by decide +kernel
theorem dX3_standOn_6 : decode cX3_standOn 6 = .ok (.iload_n 1, 1) := by decide +kernel
theorem dX3_standOn_7 : decode cX3_standOn 7 = .ok (.iconst 0, 1) := by decide +kernel
theorem dX3_standOn_8 : decode cX3_standOn 8 = .ok (.iastore, 1) := by decide +kernel
theorem dX3_standOn_9 : decode cX3_standOn 9 = .ok (.iconst 0, 1) := by decide +kernel
theorem dX3_standOn_10 : decode cX3_standOn 10 = .ok (.istore_n 3, 1) := by decide +kernel
theorem dX3_standOn_11 : decode cX3_standOn 11 = .ok (.iload_n 3, 1) := by decide +kernel
theorem dX3_standOn_12 : decode cX3_standOn 12 = .ok (.aload_n 0, 1) := by decide +kernel
theorem dX3_standOn_13 : decode cX3_standOn 13 = .ok (.getfield 37, 3) := by decide +kernel
theorem dX3_standOn_16 : decode cX3_standOn 16 = .ok (.iload_n 1, 1) := by decide +kernel
theorem dX3_standOn_17 : decode cX3_standOn 17 = .ok (.iaload, 1) := by decide +kernel
theorem dX3_standOn_18 : decode cX3_standOn 18 = .ok (.if_icmp .ge 66, 3) := by decide +kernel
theorem dX3_standOn_21 : decode cX3_standOn 21 = .ok (.aload_n 0, 1) := by decide +kernel
theorem dX3_standOn_22 : decode cX3_standOn 22 = .ok (.getfield 28, 3) := by decide +kernel
theorem dX3_standOn_25 : decode cX3_standOn 25 = .ok (.aload_n 0, 1) := by decide +kernel
theorem dX3_standOn_26 : decode cX3_standOn 26 = .ok (.getfield 34, 3) := by decide +kernel
theorem dX3_standOn_29 : decode cX3_standOn 29 = .ok (.iload_n 1, 1) := by decide +kernel
theorem dX3_standOn_30 : decode cX3_standOn 30 = .ok (.bipush 16, 2) := by decide +kernel
theorem dX3_standOn_32 : decode cX3_standOn 32 = .ok (.imul, 1) := by decide +kernel
theorem dX3_standOn_33 : decode cX3_standOn 33 = .ok (.iload_n 3, 1) := by decide +kernel
theorem dX3_standOn_34 : decode cX3_standOn 34 = .ok (.iadd, 1) := by decide +kernel
theorem dX3_standOn_35 : decode cX3_standOn 35 = .ok (.iaload, 1) := by decide +kernel
theorem dX3_standOn_36 : decode cX3_standOn 36 = .ok (.iaload, 1) := by decide +kernel
theorem dX3_standOn_37 : decode cX3_standOn 37 = .ok (.istore 4, 2) := by decide +kernel
theorem dX3_standOn_39 : decode cX3_standOn 39 = .ok (.iload 4, 2) := by decide +kernel
theorem dX3_standOn_41 : decode cX3_standOn 41 = .ok (.iconst (-1), 1) := by decide +kernel
theorem dX3_standOn_42 : decode cX3_standOn 42 = .ok (.if_icmp .eq 36, 3) := by decide +kernel
theorem dX3_standOn_45 : decode cX3_standOn 45 = .ok (.aload_n 0, 1) := by decide +kernel
theorem dX3_standOn_46 : decode cX3_standOn 46 = .ok (.iload_n 1, 1) := by decide +kernel
theorem dX3_standOn_47 : decode cX3_standOn 47 = .ok (.iload_n 3, 1) := by decide +kernel
theorem dX3_standOn_48 : decode cX3_standOn 48 = .ok (.iload 4, 2) := by decide +kernel
theorem dX3_standOn_50 : decode cX3_standOn 50 = .ok (.invokevirtual 121, 3) := by decide +kernel
theorem dX3_standOn_53 : decode cX3_standOn 53 = .ok (.ifCond .eq 25, 3) := by decide +kernel
theorem dX3_standOn_56 : decode cX3_standOn 56 = .ok (.aload_n 0, 1) := by decide +kernel
theorem dX3_standOn_57 : decode cX3_standOn 57 = .ok (.getfield 49, 3) := by decide +kernel
theorem dX3_standOn_60 : decode cX3_standOn 60 = .ok (.iload_n 1, 1) := by decide +kernel
theorem dX3_standOn_61 : decode cX3_standOn 61 = .ok (.dup2, 1) := by decide +kernel
theorem dX3_standOn_62 : decode cX3_standOn 62 = .ok (.iaload, 1) := by decide +kernel
theorem dX3_standOn_63 : decode cX3_standOn 63 = .ok (.iconst 1, 1) := by decide +kernel
theorem dX3_standOn_64 : decode cX3_standOn 64 = .ok (.iadd, 1) := by decide +kernel
theorem dX3_standOn_65 : decode cX3_standOn 65 = .ok (.iastore, 1) := by decide +kernel
theorem dX3_standOn_66 : decode cX3_standOn 66 = .ok (.iload_n 2, 1) := by decide +kernel
theorem dX3_standOn_67 : decode cX3_standOn 67 = .ok (.aload_n 0, 1) := by decide +kernel
theorem dX3_standOn_68 : decode cX3_standOn 68 = .ok (.getfield 46, 3) := by decide +kernel
theorem dX3_standOn_71 : decode cX3_standOn 71 = .ok (.iload 4, 2) := by decide +kernel
theorem dX3_standOn_73 : decode cX3_standOn 73 = .ok (.iaload, 1) := by decide +kernel
theorem dX3_standOn_74 : decode cX3_standOn 74 = .ok (.invokestatic 125, 3) := by decide +kernel
theorem dX3_standOn_77 : decode cX3_standOn 77 = .ok (.istore_n 2, 1) := by decide +kernel
theorem dX3_standOn_78 : decode cX3_standOn 78 = .ok (.iinc 3 1, 3) := by decide +kernel
theorem dX3_standOn_81 : decode cX3_standOn 81 = .ok (.goto (-70), 3) := by decide +kernel
theorem dX3_standOn_84 : decode cX3_standOn 84 = .ok (.aload_n 0, 1) := by decide +kernel
theorem dX3_standOn_85 : decode cX3_standOn 85 = .ok (.getfield 46, 3) := by decide +kernel
theorem dX3_standOn_88 : decode cX3_standOn 88 = .ok (.iload_n 1, 1) := by decide +kernel
theorem dX3_standOn_89 : decode cX3_standOn 89 = .ok (.iload_n 2, 1) := by decide +kernel
theorem dX3_standOn_90 : decode cX3_standOn 90 = .ok (.iconst 1, 1) := by decide +kernel
theorem dX3_standOn_91 : decode cX3_standOn 91 = .ok (.iadd, 1) := by decide +kernel
theorem dX3_standOn_92 : decode cX3_standOn 92 = .ok (.iastore, 1) := by decide +kernel
theorem dX3_standOn_93 : decode cX3_standOn 93 = .ok (.aload_n 0, 1) := by decide +kernel
theorem dX3_standOn_94 : decode cX3_standOn 94 = .ok (.aload_n 0, 1) := by decide +kernel
theorem dX3_standOn_95 : decode cX3_standOn 95 = .ok (.getfield 15, 3) := by decide +kernel
theorem dX3_standOn_98 : decode cX3_standOn 98 = .ok (.aload_n 0, 1) := by decide +kernel
theorem dX3_standOn_99 : decode cX3_standOn 99 = .ok (.getfield 46, 3) := by decide +kernel
theorem dX3_standOn_102 : decode cX3_standOn 102 = .ok (.iload_n 1, 1) := by decide +kernel
theorem dX3_standOn_103 : decode cX3_standOn 103 = .ok (.iaload, 1) := by decide +kernel
theorem dX3_standOn_104 : decode cX3_standOn 104 = .ok (.invokestatic 125, 3) := by decide +kernel
theorem dX3_standOn_107 : decode cX3_standOn 107 = .ok (.putfield 15, 3) := by decide +kernel
theorem dX3_standOn_110 : decode cX3_standOn 110 = .ok (.return_, 1) := by decide +kernel
abbrev rmX3_standOn : Room := { frames := 1, cells := 0, slots := 0, locals := 60 }
noncomputable def fLX3_standOn_11 (x0 : Nat) (x1 : Int32) (a : Int32 × Int32 × St) : Option ((Int32 × Int32 × St) ⊕ (Int32 × St)) :=
(gR a.2.2 x0 3 9).bind fun v13 =>
(aI a.2.2 v13 0 x1).bind fun v17 =>
if v17 ≤ a.2.1 then
(some (Sum.inr (a.1, a.2.2)))
else
((gR a.2.2 x0 3 6).bind fun v22 =>
(gR a.2.2 x0 3 8).bind fun v26 =>
(aI a.2.2 v26 0 ((x1 * 16) + a.2.1)).bind fun v35 =>
(aI a.2.2 v22 0 v35).bind fun v36 =>
if v36 = (((-1) : Int32)) then
(xlet (a.2.1 + 1) fun v78 =>
some (Sum.inl (a.1, v78, a.2.2)))
else
((isO a.2.2 x0 3).bind fun _ =>
(fX3_isFirstOf a.2.2 x0 x1 a.2.1 v36).bind fun w50 =>
if w50 = 0 then
(xlet (a.2.1 + 1) fun v78 =>
some (Sum.inl (a.1, v78, a.2.2)))
else
((gR a.2.2 x0 3 13).bind fun v57 =>
(aI a.2.2 v57 0 x1).bind fun v62 =>
(sI a.2.2 v57 x1 (v62 + 1)).bind fun σ65 =>
(gR σ65 x0 3 12).bind fun v68 =>
(aI σ65 v68 0 v36).bind fun v73 =>
xlet (imax a.1 v73) fun v77 =>
xlet (a.2.1 + 1) fun v78 =>
some (Sum.inl (v77, v78, σ65)))))
set_option maxHeartbeats 4000000 in
set_option maxRecDepth 100000 in
theorem lpX3_standOn_11 {X : xX} {x0 : Nat} {x1 : Int32}  {a0 : Int32 × Int32 × St} {b : Int32 × St} (C : Ok X cX3_standOn 5 RX3 rmX3_standOn none) (hb : iterP (fLX3_standOn_11 x0 x1) a0 = some b) (hy0 : ∀ s, b = s → V X (0, 0) s.2 84 [(0, .ref (x0)), (1, .int (x1)), (2, .int (s.1))] []) : V X (0, 0) a0.2.2 11 [(0, .ref (x0)), (1, .int (x1)), (2, .int (a0.1)), (3, .int (a0.2.1))] [] := by
  obtain ⟨n, hn⟩ := iterP_some hb
  refine x_loop (P := fun a => V X (0, 0) a.2.2 11 [(0, .ref (x0)), (1, .int (x1)), (2, .int (a.1)), (3, .int (a.2.1))] []) ?_ n a0 hn
  intro a c hf hK hxx
  have hx0 : ∀ s, c = Sum.inr s → V X (0, 0) s.2 84 [(0, .ref (x0)), (1, .int (x1)), (2, .int (s.1))] [] := fun s e => hy0 s (hxx _ e).symm
  unfold fLX3_standOn_11 at hf
  refine x_iload_n C dX3_standOn_11 12 rfl 3 rfl rfl ?_
  refine x_aload_n C dX3_standOn_12 13 rfl 0 rfl rfl ?_
  obtain ⟨v13, hv13, hf⟩ := x_bind hf
  refine x_getR C dX3_standOn_13 16 rfl hv13 cl3 rfl w467 ?_
  refine x_iload_n C dX3_standOn_16 17 rfl 1 rfl rfl ?_
  obtain ⟨v17, hv17, hf⟩ := x_bind hf
  refine x_iaload C dX3_standOn_17 18 rfl hv17 ?_
  refine x_icmp_ge C dX3_standOn_18 84 (by decide) 21 rfl (fun hc => ?_) (fun hc => ?_)
  · have hf := (if_pos hc).symm.trans hf
    refine x_lv [0, 1, 2] (lv' := [(0, .ref (x0)), (1, .int (x1)), (2, .int (a.1))]) rfl ?_
    exact hx0 _ (Option.some.inj hf).symm
  · have hf := (if_neg hc).symm.trans hf
    refine x_aload_n C dX3_standOn_21 22 rfl 0 rfl rfl ?_
    obtain ⟨v22, hv22, hf⟩ := x_bind hf
    refine x_getR C dX3_standOn_22 25 rfl hv22 cl3 rfl w464 ?_
    refine x_aload_n C dX3_standOn_25 26 rfl 0 rfl rfl ?_
    obtain ⟨v26, hv26, hf⟩ := x_bind hf
    refine x_getR C dX3_standOn_26 29 rfl hv26 cl3 rfl w466 ?_
    refine x_iload_n C dX3_standOn_29 30 rfl 1 rfl rfl ?_
    refine x_bipush C dX3_standOn_30 32 rfl 16 (by decide) ?_
    refine x_imul C dX3_standOn_32 33 rfl ?_
    refine x_iload_n C dX3_standOn_33 34 rfl 3 rfl rfl ?_
    refine x_iadd C dX3_standOn_34 35 rfl ?_
    obtain ⟨v35, hv35, hf⟩ := x_bind hf
    refine x_iaload C dX3_standOn_35 36 rfl hv35 ?_
    obtain ⟨v36, hv36, hf⟩ := x_bind hf
    refine x_iaload C dX3_standOn_36 37 rfl hv36 ?_
    refine x_istore C dX3_standOn_37 39 rfl rfl [(4, .int (v36)), (0, .ref (x0)), (1, .int (x1)), (2, .int (a.1)), (3, .int (a.2.1))] rfl ?_
    refine x_iload C dX3_standOn_39 41 rfl 0 rfl ?_
    refine x_iconst C dX3_standOn_41 42 rfl (-1) (by decide) ?_
    refine x_icmp_eq C dX3_standOn_42 78 (by decide) 45 rfl (fun hc => ?_) (fun hc => ?_)
    · have hf := (if_pos hc).symm.trans hf
      obtain ⟨v78, ev78, hf⟩ := xlet_some hf
      refine x_iinc C dX3_standOn_78 81 rfl 4 rfl v78 ev78 rfl [(3, .int (v78)), (4, .int (v36)), (0, .ref (x0)), (1, .int (x1)), (2, .int (a.1))] rfl ?_
      refine x_goto C dX3_standOn_81 11 (by decide) ?_
      refine x_lv [2, 3, 4, 0] (lv' := [(0, .ref (x0)), (1, .int (x1)), (2, .int (a.1)), (3, .int (v78))]) rfl ?_
      exact hK _ (Option.some.inj hf).symm
    · have hf := (if_neg hc).symm.trans hf
      refine x_aload_n C dX3_standOn_45 46 rfl 1 rfl rfl ?_
      refine x_iload_n C dX3_standOn_46 47 rfl 2 rfl rfl ?_
      refine x_iload_n C dX3_standOn_47 48 rfl 4 rfl rfl ?_
      refine x_iload C dX3_standOn_48 50 rfl 0 rfl ?_
      obtain ⟨o50, ho50, hf⟩ := x_bind hf
      obtain ⟨w50, hw50, hf⟩ := x_bind hf
      refine x_callVi C dX3_standOn_50 53 rfl ho50 cl3.1 rfl (cX3_isFirstOfc hw50) kX3_isFirstOf kvX3_isFirstOf w1176 ⟨rfl, rfl⟩ ⟨Nat.le_of_ble_eq_true rfl, Nat.le_of_ble_eq_true rfl⟩ ⟨Nat.zero_le _, Nat.zero_le _⟩ rfl rfl (Nat.le_of_ble_eq_true rfl) ?_
      refine x_if_eq C dX3_standOn_53 78 (by decide) 56 rfl (fun hc => ?_) (fun hc => ?_)
      · have hf := (if_pos hc).symm.trans hf
        obtain ⟨v78, ev78, hf⟩ := xlet_some hf
        refine x_iinc C dX3_standOn_78 81 rfl 4 rfl v78 ev78 rfl [(3, .int (v78)), (4, .int (v36)), (0, .ref (x0)), (1, .int (x1)), (2, .int (a.1))] rfl ?_
        refine x_goto C dX3_standOn_81 11 (by decide) ?_
        refine x_lv [2, 3, 4, 0] (lv' := [(0, .ref (x0)), (1, .int (x1)), (2, .int (a.1)), (3, .int (v78))]) rfl ?_
        exact hK _ (Option.some.inj hf).symm
      · have hf := (if_neg hc).symm.trans hf
        refine x_aload_n C dX3_standOn_56 57 rfl 1 rfl rfl ?_
        obtain ⟨v57, hv57, hf⟩ := x_bind hf
        refine x_getR C dX3_standOn_57 60 rfl hv57 cl3 rfl w472 ?_
        refine x_iload_n C dX3_standOn_60 61 rfl 2 rfl rfl ?_
        refine x_dup2 C dX3_standOn_61 62 rfl rfl rfl ?_
        obtain ⟨v62, hv62, hf⟩ := x_bind hf
        refine x_iaload C dX3_standOn_62 63 rfl hv62 ?_
        refine x_iconst C dX3_standOn_63 64 rfl 1 (by decide) ?_
        refine x_iadd C dX3_standOn_64 65 rfl ?_
        obtain ⟨σ65, hσ65, hf⟩ := x_bind hf
        refine x_iastore C dX3_standOn_65 66 rfl hσ65 ?_
        refine x_iload_n C dX3_standOn_66 67 rfl 3 rfl rfl ?_
        refine x_aload_n C dX3_standOn_67 68 rfl 1 rfl rfl ?_
        obtain ⟨v68, hv68, hf⟩ := x_bind hf
        refine x_getR C dX3_standOn_68 71 rfl hv68 cl3 rfl w470 ?_
        refine x_iload C dX3_standOn_71 73 rfl 0 rfl ?_
        obtain ⟨v73, hv73, hf⟩ := x_bind hf
        refine x_iaload C dX3_standOn_73 74 rfl hv73 ?_
        refine x_mmax C dX3_standOn_74 77 rfl w1180 mmaxw ⟨Nat.le_of_ble_eq_true rfl, Nat.le_of_ble_eq_true rfl⟩ ⟨Nat.zero_le _, Nat.zero_le _⟩ ?_
        obtain ⟨v77, ev77, hf⟩ := xlet_some hf
        refine x_topi ev77 ?_
        refine x_istore_n C dX3_standOn_77 78 rfl rfl rfl [(2, .int (v77)), (4, .int (v36)), (0, .ref (x0)), (1, .int (x1)), (3, .int (a.2.1))] rfl ?_
        obtain ⟨v78, ev78, hf⟩ := xlet_some hf
        refine x_iinc C dX3_standOn_78 81 rfl 4 rfl v78 ev78 rfl [(3, .int (v78)), (2, .int (v77)), (4, .int (v36)), (0, .ref (x0)), (1, .int (x1))] rfl ?_
        refine x_goto C dX3_standOn_81 11 (by decide) ?_
        refine x_lv [3, 4, 1, 0] (lv' := [(0, .ref (x0)), (1, .int (x1)), (2, .int (v77)), (3, .int (v78))]) rfl ?_
        exact hK _ (Option.some.inj hf).symm
noncomputable def fX3_standOn (σ : St) (x0 : Nat) (x1 : Int32) : Option (St) :=
(gR σ x0 3 13).bind fun v3 =>
(sI σ v3 x1 0).bind fun σ8 =>
(iterP (fLX3_standOn_11 x0 x1) (0, 0, σ8)).bind fun b11 =>
(gR b11.2 x0 3 12).bind fun v85 =>
(sI b11.2 v85 x1 (b11.1 + 1)).bind fun σ92 =>
(gI σ92 x0 3 2).bind fun v95 =>
(gR σ92 x0 3 12).bind fun v99 =>
(aI σ92 v99 0 x1).bind fun v103 =>
(wrF σ92 x0 3 2 (.int (imax v95 v103))).bind fun σ107 =>
some σ107
set_option maxHeartbeats 4000000 in
set_option maxRecDepth 100000 in
theorem cX3_standOnc {l : Launch} {G : xG} {A : Nat → Prop} {σ : St} {x0 : Nat} {x1 : Int32} {c : St} (hf : fX3_standOn σ x0 x1 = some c) : Con l yX3_standOn (xws yX3_standOn cX3_standOn 5 none) rmX3_standOn [.ref (x0), .int (x1)] G A σ none c := by
  refine x_start rfl (Nat.le_of_ble_eq_true rfl) (fun X _ _ _ C hE0 => ?_)
  have hE : ∀ r, c = r → xE1 X none r := fun r e => e ▸ hE0
  show V X (0, 0) σ 0 [(0, .ref (x0)), (1, .int (x1))] []
  unfold fX3_standOn at hf
  refine x_iconst C dX3_standOn_0 1 rfl 0 (by decide) ?_
  refine x_istore_n C dX3_standOn_1 2 rfl rfl rfl [(2, .int (0)), (0, .ref (x0)), (1, .int (x1))] rfl ?_
  refine x_aload_n C dX3_standOn_2 3 rfl 1 rfl rfl ?_
  obtain ⟨v3, hv3, hf⟩ := x_bind hf
  refine x_getR C dX3_standOn_3 6 rfl hv3 cl3 rfl w472 ?_
  refine x_iload_n C dX3_standOn_6 7 rfl 2 rfl rfl ?_
  refine x_iconst C dX3_standOn_7 8 rfl 0 (by decide) ?_
  obtain ⟨σ8, hσ8, hf⟩ := x_bind hf
  refine x_iastore C dX3_standOn_8 9 rfl hσ8 ?_
  refine x_iconst C dX3_standOn_9 10 rfl 0 (by decide) ?_
  refine x_istore_n C dX3_standOn_10 11 rfl rfl rfl [(3, .int (0)), (2, .int (0)), (0, .ref (x0)), (1, .int (x1))] rfl ?_
  obtain ⟨b11, hb11, hf⟩ := x_bind hf
  refine x_lv [2, 3, 1, 0] (lv' := [(0, .ref (x0)), (1, .int (x1)), (2, .int (0)), (3, .int (0))]) rfl ?_
  refine lpX3_standOn_11 C hb11 (fun s11 e11 => ?_)
  subst e11
  refine x_aload_n C dX3_standOn_84 85 rfl 0 rfl rfl ?_
  obtain ⟨v85, hv85, hf⟩ := x_bind hf
  refine x_getR C dX3_standOn_85 88 rfl hv85 cl3 rfl w470 ?_
  refine x_iload_n C dX3_standOn_88 89 rfl 1 rfl rfl ?_
  refine x_iload_n C dX3_standOn_89 90 rfl 2 rfl rfl ?_
  refine x_iconst C dX3_standOn_90 91 rfl 1 (by decide) ?_
  refine x_iadd C dX3_standOn_91 92 rfl ?_
  obtain ⟨σ92, hσ92, hf⟩ := x_bind hf
  refine x_iastore C dX3_standOn_92 93 rfl hσ92 ?_
  refine x_aload_n C dX3_standOn_93 94 rfl 0 rfl rfl ?_
  refine x_aload_n C dX3_standOn_94 95 rfl 0 rfl rfl ?_
  obtain ⟨v95, hv95, hf⟩ := x_bind hf
  refine x_getI C dX3_standOn_95 98 rfl hv95 cl3 rfl w459 ?_
  refine x_aload_n C dX3_standOn_98 99 rfl 0 rfl rfl ?_
  obtain ⟨v99, hv99, hf⟩ := x_bind hf
  refine x_getR C dX3_standOn_99 102 rfl hv99 cl3 rfl w470 ?_
  refine x_iload_n C dX3_standOn_102 103 rfl 1 rfl rfl ?_
  obtain ⟨v103, hv103, hf⟩ := x_bind hf
  refine x_iaload C dX3_standOn_103 104 rfl hv103 ?_
  refine x_mmax C dX3_standOn_104 107 rfl w1180 mmaxw ⟨Nat.le_of_ble_eq_true rfl, Nat.le_of_ble_eq_true rfl⟩ ⟨Nat.zero_le _, Nat.zero_le _⟩ ?_
  obtain ⟨σ107, hσ107, hf⟩ := x_bind hf
  refine x_putX C dX3_standOn_107 110 rfl hσ107 cl3 rfl w459 rfl rfl rfl ?_
  exact x_vret C (hE _ (Option.some.inj hf).symm) dX3_standOn_110
theorem dX3_drawStep_0 : decode cX3_drawStep 0 = .ok (.iload_n 2, 1) := by decide +kernel
theorem dX3_drawStep_1 : decode cX3_drawStep 1 = .ok (.invokestatic 96, 3) := by decide +kernel
theorem dX3_drawStep_4 : decode cX3_drawStep 4 = .ok (.istore_n 3, 1) := by decide +kernel
theorem dX3_drawStep_5 : decode cX3_drawStep 5 = .ok (.iload_n 2, 1) := by decide +kernel
theorem dX3_drawStep_6 : decode cX3_drawStep 6 = .ok (.invokestatic 102, 3) := by decide +kernel
theorem dX3_drawStep_9 : decode cX3_drawStep 9 = .ok (.istore 4, 2) := by decide +kernel
theorem dX3_drawStep_11 : decode cX3_drawStep 11 = .ok (.aload_n 0, 1) := by decide +kernel
theorem dX3_drawStep_12 : decode cX3_drawStep 12 = .ok (.getfield 37, 3) := by decide +kernel
theorem dX3_drawStep_15 : decode cX3_drawStep 15 = .ok (.iload_n 1, 1) := by decide +kernel
theorem dX3_drawStep_16 : decode cX3_drawStep 16 = .ok (.aload_n 0, 1) := by decide +kernel
theorem dX3_drawStep_17 : decode cX3_drawStep 17 = .ok (.getfield 61, 3) := by decide +kernel
theorem dX3_drawStep_20 : decode cX3_drawStep 20 = .ok (.getfield 105, 3) := by decide +kernel
theorem dX3_drawStep_23 : decode cX3_drawStep 23 = .ok (.getfield 109, 3) := by decide +kernel
theorem dX3_drawStep_26 : decode cX3_drawStep 26 = .ok (.iload 4, 2) := by decide +kernel
theorem dX3_drawStep_28 : decode cX3_drawStep 28 = .ok (.laload, 1) := by decide +kernel
theorem dX3_drawStep_29 : decode cX3_drawStep 29 = .ok (.invokestatic 73, 3) := by decide +kernel
theorem dX3_drawStep_32 : decode cX3_drawStep 32 = .ok (.iastore, 1) := by decide +kernel
theorem dX3_drawStep_33 : decode cX3_drawStep 33 = .ok (.aload_n 0, 1) := by decide +kernel
theorem dX3_drawStep_34 : decode cX3_drawStep 34 = .ok (.getfield 40, 3) := by decide +kernel
theorem dX3_drawStep_37 : decode cX3_drawStep 37 = .ok (.iload_n 1, 1) := by decide +kernel
theorem dX3_drawStep_38 : decode cX3_drawStep 38 = .ok (.aload_n 0, 1) := by decide +kernel
theorem dX3_drawStep_39 : decode cX3_drawStep 39 = .ok (.getfield 61, 3) := by decide +kernel
theorem dX3_drawStep_42 : decode cX3_drawStep 42 = .ok (.getfield 105, 3) := by decide +kernel
theorem dX3_drawStep_45 : decode cX3_drawStep 45 = .ok (.getfield 112, 3) := by decide +kernel
theorem dX3_drawStep_48 : decode cX3_drawStep 48 = .ok (.iload 4, 2) := by decide +kernel
theorem dX3_drawStep_50 : decode cX3_drawStep 50 = .ok (.laload, 1) := by decide +kernel
theorem dX3_drawStep_51 : decode cX3_drawStep 51 = .ok (.invokestatic 73, 3) := by decide +kernel
theorem dX3_drawStep_54 : decode cX3_drawStep 54 = .ok (.iastore, 1) := by decide +kernel
theorem dX3_drawStep_55 : decode cX3_drawStep 55 = .ok (.aload_n 0, 1) := by decide +kernel
theorem dX3_drawStep_56 : decode cX3_drawStep 56 = .ok (.getfield 31, 3) := by decide +kernel
theorem dX3_drawStep_59 : decode cX3_drawStep 59 = .ok (.aload_n 0, 1) := by decide +kernel
theorem dX3_drawStep_60 : decode cX3_drawStep 60 = .ok (.getfield 18, 3) := by decide +kernel
theorem dX3_drawStep_63 : decode cX3_drawStep 63 = .ok (.iload_n 3, 1) := by decide +kernel
theorem dX3_drawStep_64 : decode cX3_drawStep 64 = .ok (.iaload, 1) := by decide +kernel
theorem dX3_drawStep_65 : decode cX3_drawStep 65 = .ok (.iload_n 1, 1) := by decide +kernel
theorem dX3_drawStep_66 : decode cX3_drawStep 66 = .ok (.iastore, 1) := by decide +kernel
theorem dX3_drawStep_67 : decode cX3_drawStep 67 = .ok (.iconst 0, 1) := by decide +kernel
theorem dX3_drawStep_68 : decode cX3_drawStep 68 = .ok (.istore 5, 2) := by decide +kernel
theorem dX3_drawStep_70 : decode cX3_drawStep 70 = .ok (.iload 5, 2) := by decide +kernel
theorem dX3_drawStep_72 : decode cX3_drawStep 72 = .ok (.aload_n 0, 1) := by decide +kernel
theorem dX3_drawStep_73 : decode cX3_drawStep 73 = .ok (.getfield 37, 3) := by decide +kernel
theorem dX3_drawStep_76 : decode cX3_drawStep 76 = .ok (.iload_n 1, 1) := by decide +kernel
theorem dX3_drawStep_77 : decode cX3_drawStep 77 = .ok (.iaload, 1) := by decide +kernel
theorem dX3_drawStep_78 : decode cX3_drawStep 78 = .ok (.if_icmp .ge 30, 3) := by decide +kernel
theorem dX3_drawStep_81 : decode cX3_drawStep 81 = .ok (.aload_n 0, 1) := by decide +kernel
theorem dX3_drawStep_82 : decode cX3_drawStep 82 = .ok (.getfield 34, 3) := by decide +kernel
theorem dX3_drawStep_85 : decode cX3_drawStep 85 = .ok (.iload_n 1, 1) := by decide +kernel
theorem dX3_drawStep_86 : decode cX3_drawStep 86 = .ok (.bipush 16, 2) := by decide +kernel
theorem dX3_drawStep_88 : decode cX3_drawStep 88 = .ok (.imul, 1) := by decide +kernel
theorem dX3_drawStep_89 : decode cX3_drawStep 89 = .ok (.iload 5, 2) := by decide +kernel
theorem dX3_drawStep_91 : decode cX3_drawStep 91 = .ok (.iadd, 1) := by decide +kernel
theorem dX3_drawStep_92 : decode cX3_drawStep 92 = .ok (.aload_n 0, 1) := by decide +kernel
theorem dX3_drawStep_93 : decode cX3_drawStep 93 = .ok (.getfield 18, 3) := by decide +kernel
theorem dX3_drawStep_96 : decode cX3_drawStep 96 = .ok (.iload_n 3, 1) := by decide +kernel
theorem dX3_drawStep_97 : decode cX3_drawStep 97 = .ok (.iload 5, 2) := by decide +kernel
theorem dX3_drawStep_99 : decode cX3_drawStep 99 = .ok (.iadd, 1) := by decide +kernel
theorem dX3_drawStep_100 : decode cX3_drawStep 100 = .ok (.iaload, 1) := by decide +kernel
theorem dX3_drawStep_101 : decode cX3_drawStep 101 = .ok (.iastore, 1) := by decide +kernel
theorem dX3_drawStep_102 : decode cX3_drawStep 102 = .ok (.iinc 5 1, 3) := by decide +kernel
theorem dX3_drawStep_105 : decode cX3_drawStep 105 = .ok (.goto (-35), 3) := by decide +kernel
theorem dX3_drawStep_108 : decode cX3_drawStep 108 = .ok (.aload_n 0, 1) := by decide +kernel
theorem dX3_drawStep_109 : decode cX3_drawStep 109 = .ok (.iload_n 1, 1) := by decide +kernel
theorem dX3_drawStep_110 : decode cX3_drawStep 110 = .ok (.invokevirtual 115, 3) := by decide +kernel
theorem dX3_drawStep_113 : decode cX3_drawStep 113 = .ok (.aload_n 0, 1) := by decide +kernel
theorem dX3_drawStep_114 : decode cX3_drawStep 114 = .ok (.getfield 43, 3) := by decide +kernel
theorem dX3_drawStep_117 : decode cX3_drawStep 117 = .ok (.iload_n 1, 1) := by decide +kernel
theorem dX3_drawStep_118 : decode cX3_drawStep 118 = .ok (.aload_n 0, 1) := by decide +kernel
theorem dX3_drawStep_119 : decode cX3_drawStep 119 = .ok (.getfield 25, 3) := by decide +kernel
theorem dX3_drawStep_122 : decode cX3_drawStep 122 = .ok (.iastore, 1) := by decide +kernel
theorem dX3_drawStep_123 : decode cX3_drawStep 123 = .ok (.aload_n 0, 1) := by decide +kernel
theorem dX3_drawStep_124 : decode cX3_drawStep 124 = .ok (.aload_n 0, 1) := by decide +kernel
theorem dX3_drawStep_125 : decode cX3_drawStep 125 = .ok (.getfield 40, 3) := by decide +kernel
theorem dX3_drawStep_128 : decode cX3_drawStep 128 = .ok (.iload_n 1, 1) := by decide +kernel
theorem dX3_drawStep_129 : decode cX3_drawStep 129 = .ok (.iaload, 1) := by decide +kernel
theorem dX3_drawStep_130 : decode cX3_drawStep 130 = .ok (.iload_n 1, 1) := by decide +kernel
theorem dX3_drawStep_131 : decode cX3_drawStep 131 = .ok (.invokevirtual 82, 3) := by decide +kernel
theorem dX3_drawStep_134 : decode cX3_drawStep 134 = .ok (.aload_n 0, 1) := by decide +kernel
theorem dX3_drawStep_135 : decode cX3_drawStep 135 = .ok (.iload_n 3, 1) := by decide +kernel
theorem dX3_drawStep_136 : decode cX3_drawStep 136 = .ok (.iload_n 1, 1) := by decide +kernel
theorem dX3_drawStep_137 : decode cX3_drawStep 137 = .ok (.invokevirtual 118, 3) := by decide +kernel
theorem dX3_drawStep_140 : decode cX3_drawStep 140 = .ok (.return_, 1) := by decide +kernel
abbrev rmX3_drawStep : Room := { frames := 2, cells := 0, slots := 0, locals := 84 }
noncomputable def fLX3_drawStep_70 (x0 : Nat) (x1 : Int32) (x3 : Int32) (a : Int32 × St) : Option ((Int32 × St) ⊕ (St)) :=
(gR a.2 x0 3 9).bind fun v73 =>
(aI a.2 v73 0 x1).bind fun v77 =>
if v77 ≤ a.1 then
(some (Sum.inr a.2))
else
((gR a.2 x0 3 8).bind fun v82 =>
(gR a.2 x0 3 3).bind fun v93 =>
(aI a.2 v93 0 (x3 + a.1)).bind fun v100 =>
(sI a.2 v82 ((x1 * 16) + a.1) v100).bind fun σ101 =>
xlet (a.1 + 1) fun v102 =>
some (Sum.inl (v102, σ101)))
set_option maxHeartbeats 4000000 in
set_option maxRecDepth 100000 in
theorem lpX3_drawStep_70 {X : xX} {x0 : Nat} {x1 : Int32} {x3 : Int32}  {a0 : Int32 × St} {b : St} (C : Ok X cX3_drawStep 6 RX3 rmX3_drawStep none) (hb : iterP (fLX3_drawStep_70 x0 x1 x3) a0 = some b) (hy0 : ∀ s, b = s → V X (0, 0) s 108 [(0, .ref (x0)), (1, .int (x1)), (3, .int (x3))] []) : V X (0, 0) a0.2 70 [(0, .ref (x0)), (1, .int (x1)), (3, .int (x3)), (5, .int (a0.1))] [] := by
  obtain ⟨n, hn⟩ := iterP_some hb
  refine x_loop (P := fun a => V X (0, 0) a.2 70 [(0, .ref (x0)), (1, .int (x1)), (3, .int (x3)), (5, .int (a.1))] []) ?_ n a0 hn
  intro a c hf hK hxx
  have hx0 : ∀ s, c = Sum.inr s → V X (0, 0) s 108 [(0, .ref (x0)), (1, .int (x1)), (3, .int (x3))] [] := fun s e => hy0 s (hxx _ e).symm
  unfold fLX3_drawStep_70 at hf
  refine x_iload C dX3_drawStep_70 72 rfl 3 rfl ?_
  refine x_aload_n C dX3_drawStep_72 73 rfl 0 rfl rfl ?_
  obtain ⟨v73, hv73, hf⟩ := x_bind hf
  refine x_getR C dX3_drawStep_73 76 rfl hv73 cl3 rfl w467 ?_
  refine x_iload_n C dX3_drawStep_76 77 rfl 1 rfl rfl ?_
  obtain ⟨v77, hv77, hf⟩ := x_bind hf
  refine x_iaload C dX3_drawStep_77 78 rfl hv77 ?_
  refine x_icmp_ge C dX3_drawStep_78 108 (by decide) 81 rfl (fun hc => ?_) (fun hc => ?_)
  · have hf := (if_pos hc).symm.trans hf
    refine x_lv [0, 1, 2] (lv' := [(0, .ref (x0)), (1, .int (x1)), (3, .int (x3))]) rfl ?_
    exact hx0 _ (Option.some.inj hf).symm
  · have hf := (if_neg hc).symm.trans hf
    refine x_aload_n C dX3_drawStep_81 82 rfl 0 rfl rfl ?_
    obtain ⟨v82, hv82, hf⟩ := x_bind hf
    refine x_getR C dX3_drawStep_82 85 rfl hv82 cl3 rfl w466 ?_
    refine x_iload_n C dX3_drawStep_85 86 rfl 1 rfl rfl ?_
    refine x_bipush C dX3_drawStep_86 88 rfl 16 (by decide) ?_
    refine x_imul C dX3_drawStep_88 89 rfl ?_
    refine x_iload C dX3_drawStep_89 91 rfl 3 rfl ?_
    refine x_iadd C dX3_drawStep_91 92 rfl ?_
    refine x_aload_n C dX3_drawStep_92 93 rfl 0 rfl rfl ?_
    obtain ⟨v93, hv93, hf⟩ := x_bind hf
    refine x_getR C dX3_drawStep_93 96 rfl hv93 cl3 rfl w461 ?_
    refine x_iload_n C dX3_drawStep_96 97 rfl 2 rfl rfl ?_
    refine x_iload C dX3_drawStep_97 99 rfl 3 rfl ?_
    refine x_iadd C dX3_drawStep_99 100 rfl ?_
    obtain ⟨v100, hv100, hf⟩ := x_bind hf
    refine x_iaload C dX3_drawStep_100 101 rfl hv100 ?_
    obtain ⟨σ101, hσ101, hf⟩ := x_bind hf
    refine x_iastore C dX3_drawStep_101 102 rfl hσ101 ?_
    obtain ⟨v102, ev102, hf⟩ := xlet_some hf
    refine x_iinc C dX3_drawStep_102 105 rfl 3 rfl v102 ev102 rfl [(5, .int (v102)), (0, .ref (x0)), (1, .int (x1)), (3, .int (x3))] rfl ?_
    refine x_goto C dX3_drawStep_105 70 (by decide) ?_
    refine x_lv [1, 2, 3, 0] (lv' := [(0, .ref (x0)), (1, .int (x1)), (3, .int (x3)), (5, .int (v102))]) rfl ?_
    exact hK _ (Option.some.inj hf).symm
noncomputable def fX3_drawStep (σ : St) (x0 : Nat) (x1 : Int32) (x2 : Int32) : Option (St) :=
(fX8_whereOf x2).bind fun w1 =>
(fX8_ruleOf x2).bind fun w6 =>
(gR σ x0 3 9).bind fun v12 =>
(gR σ x0 3 0).bind fun v17 =>
(gR σ v17 2 0).bind fun v20 =>
(gR σ v20 8 2).bind fun v23 =>
(aL σ v23 w6).bind fun v28 =>
(fX10_length v28).bind fun w29 =>
(sI σ v12 x1 w29).bind fun σ32 =>
(gR σ32 x0 3 10).bind fun v34 =>
(gR σ32 x0 3 0).bind fun v39 =>
(gR σ32 v39 2 0).bind fun v42 =>
(gR σ32 v42 8 3).bind fun v45 =>
(aL σ32 v45 w6).bind fun v50 =>
(fX10_length v50).bind fun w51 =>
(sI σ32 v34 x1 w51).bind fun σ54 =>
(gR σ54 x0 3 7).bind fun v56 =>
(gR σ54 x0 3 3).bind fun v60 =>
(aI σ54 v60 0 w1).bind fun v64 =>
(sI σ54 v56 v64 x1).bind fun σ66 =>
(iterP (fLX3_drawStep_70 x0 x1 w1) (0, σ66)).bind fun b70 =>
(isO b70 x0 3).bind fun _ =>
(fX3_standOn b70 x0 x1).bind fun w110 =>
(gR w110 x0 3 11).bind fun v114 =>
(gI w110 x0 3 5).bind fun v119 =>
(sI w110 v114 x1 v119).bind fun σ122 =>
(gR σ122 x0 3 10).bind fun v125 =>
(aI σ122 v125 0 x1).bind fun v129 =>
(isO σ122 x0 3).bind fun _ =>
(fX3_addLetters σ122 x0 v129 x1).bind fun w131 =>
(isO w131 x0 3).bind fun _ =>
(fX3_replaceInRow w131 x0 w1 x1).bind fun w137 =>
some w137
set_option maxHeartbeats 4000000 in
set_option maxRecDepth 100000 in
theorem cX3_drawStepc {l : Launch} {G : xG} {A : Nat → Prop} {σ : St} {x0 : Nat} {x1 : Int32} {x2 : Int32} {c : St} (hf : fX3_drawStep σ x0 x1 x2 = some c) : Con l yX3_drawStep (xws yX3_drawStep cX3_drawStep 6 none) rmX3_drawStep [.ref (x0), .int (x1), .int (x2)] G A σ none c := by
  refine x_start rfl (Nat.le_of_ble_eq_true rfl) (fun X _ _ _ C hE0 => ?_)
  have hE : ∀ r, c = r → xE1 X none r := fun r e => e ▸ hE0
  show V X (0, 0) σ 0 [(0, .ref (x0)), (1, .int (x1)), (2, .int (x2))] []
  unfold fX3_drawStep at hf
  refine x_iload_n C dX3_drawStep_0 1 rfl 2 rfl rfl ?_
  obtain ⟨w1, hw1, hf⟩ := x_bind hf
  refine x_callSi C dX3_drawStep_1 4 rfl (cX8_whereOfc hw1) kX8_whereOf ksX8_whereOf w1170 ⟨rfl, rfl⟩ ⟨Nat.le_of_ble_eq_true rfl, Nat.le_of_ble_eq_true rfl⟩ ⟨Nat.zero_le _, Nat.zero_le _⟩ rfl rfl (Nat.le_of_ble_eq_true rfl) ?_
  refine x_istore_n C dX3_drawStep_4 5 rfl rfl rfl [(3, .int (w1)), (0, .ref (x0)), (1, .int (x1)), (2, .int (x2))] rfl ?_
  refine x_iload_n C dX3_drawStep_5 6 rfl 3 rfl rfl ?_
  obtain ⟨w6, hw6, hf⟩ := x_bind hf
  refine x_callSi C dX3_drawStep_6 9 rfl (cX8_ruleOfc hw6) kX8_ruleOf ksX8_ruleOf w1171 ⟨rfl, rfl⟩ ⟨Nat.le_of_ble_eq_true rfl, Nat.le_of_ble_eq_true rfl⟩ ⟨Nat.zero_le _, Nat.zero_le _⟩ rfl rfl (Nat.le_of_ble_eq_true rfl) ?_
  refine x_istore C dX3_drawStep_9 11 rfl rfl [(4, .int (w6)), (3, .int (w1)), (0, .ref (x0)), (1, .int (x1)), (2, .int (x2))] rfl ?_
  refine x_aload_n C dX3_drawStep_11 12 rfl 2 rfl rfl ?_
  obtain ⟨v12, hv12, hf⟩ := x_bind hf
  refine x_getR C dX3_drawStep_12 15 rfl hv12 cl3 rfl w467 ?_
  refine x_iload_n C dX3_drawStep_15 16 rfl 3 rfl rfl ?_
  refine x_aload_n C dX3_drawStep_16 17 rfl 2 rfl rfl ?_
  obtain ⟨v17, hv17, hf⟩ := x_bind hf
  refine x_getR C dX3_drawStep_17 20 rfl hv17 cl3 rfl w457 ?_
  obtain ⟨v20, hv20, hf⟩ := x_bind hf
  refine x_getR C dX3_drawStep_20 23 rfl hv20 cl2 rfl w236 ?_
  obtain ⟨v23, hv23, hf⟩ := x_bind hf
  refine x_getR C dX3_drawStep_23 26 rfl hv23 cl8 rfl w194 ?_
  refine x_iload C dX3_drawStep_26 28 rfl 0 rfl ?_
  obtain ⟨v28, hv28, hf⟩ := x_bind hf
  refine x_laload C dX3_drawStep_28 29 rfl hv28 ?_
  obtain ⟨w29, hw29, hf⟩ := x_bind hf
  refine x_callSi C dX3_drawStep_29 32 rfl (cX10_lengthc hw29) kX10_length ksX10_length w1153 ⟨rfl, rfl⟩ ⟨Nat.le_of_ble_eq_true rfl, Nat.le_of_ble_eq_true rfl⟩ ⟨Nat.zero_le _, Nat.zero_le _⟩ rfl rfl (Nat.le_of_ble_eq_true rfl) ?_
  obtain ⟨σ32, hσ32, hf⟩ := x_bind hf
  refine x_iastore C dX3_drawStep_32 33 rfl hσ32 ?_
  refine x_aload_n C dX3_drawStep_33 34 rfl 2 rfl rfl ?_
  obtain ⟨v34, hv34, hf⟩ := x_bind hf
  refine x_getR C dX3_drawStep_34 37 rfl hv34 cl3 rfl w468 ?_
  refine x_iload_n C dX3_drawStep_37 38 rfl 3 rfl rfl ?_
  refine x_aload_n C dX3_drawStep_38 39 rfl 2 rfl rfl ?_
  obtain ⟨v39, hv39, hf⟩ := x_bind hf
  refine x_getR C dX3_drawStep_39 42 rfl hv39 cl3 rfl w457 ?_
  obtain ⟨v42, hv42, hf⟩ := x_bind hf
  refine x_getR C dX3_drawStep_42 45 rfl hv42 cl2 rfl w236 ?_
  obtain ⟨v45, hv45, hf⟩ := x_bind hf
  refine x_getR C dX3_drawStep_45 48 rfl hv45 cl8 rfl w200 ?_
  refine x_iload C dX3_drawStep_48 50 rfl 0 rfl ?_
  obtain ⟨v50, hv50, hf⟩ := x_bind hf
  refine x_laload C dX3_drawStep_50 51 rfl hv50 ?_
  obtain ⟨w51, hw51, hf⟩ := x_bind hf
  refine x_callSi C dX3_drawStep_51 54 rfl (cX10_lengthc hw51) kX10_length ksX10_length w1153 ⟨rfl, rfl⟩ ⟨Nat.le_of_ble_eq_true rfl, Nat.le_of_ble_eq_true rfl⟩ ⟨Nat.zero_le _, Nat.zero_le _⟩ rfl rfl (Nat.le_of_ble_eq_true rfl) ?_
  obtain ⟨σ54, hσ54, hf⟩ := x_bind hf
  refine x_iastore C dX3_drawStep_54 55 rfl hσ54 ?_
  refine x_aload_n C dX3_drawStep_55 56 rfl 2 rfl rfl ?_
  obtain ⟨v56, hv56, hf⟩ := x_bind hf
  refine x_getR C dX3_drawStep_56 59 rfl hv56 cl3 rfl w465 ?_
  refine x_aload_n C dX3_drawStep_59 60 rfl 2 rfl rfl ?_
  obtain ⟨v60, hv60, hf⟩ := x_bind hf
  refine x_getR C dX3_drawStep_60 63 rfl hv60 cl3 rfl w461 ?_
  refine x_iload_n C dX3_drawStep_63 64 rfl 1 rfl rfl ?_
  obtain ⟨v64, hv64, hf⟩ := x_bind hf
  refine x_iaload C dX3_drawStep_64 65 rfl hv64 ?_
  refine x_iload_n C dX3_drawStep_65 66 rfl 3 rfl rfl ?_
  obtain ⟨σ66, hσ66, hf⟩ := x_bind hf
  refine x_iastore C dX3_drawStep_66 67 rfl hσ66 ?_
  refine x_iconst C dX3_drawStep_67 68 rfl 0 (by decide) ?_
  refine x_istore C dX3_drawStep_68 70 rfl rfl [(5, .int (0)), (4, .int (w6)), (3, .int (w1)), (0, .ref (x0)), (1, .int (x1)), (2, .int (x2))] rfl ?_
  obtain ⟨b70, hb70, hf⟩ := x_bind hf
  refine x_lv [3, 4, 2, 0] (lv' := [(0, .ref (x0)), (1, .int (x1)), (3, .int (w1)), (5, .int (0))]) rfl ?_
  refine lpX3_drawStep_70 C hb70 (fun s70 e70 => ?_)
  subst e70
  refine x_aload_n C dX3_drawStep_108 109 rfl 0 rfl rfl ?_
  refine x_iload_n C dX3_drawStep_109 110 rfl 1 rfl rfl ?_
  obtain ⟨o110, ho110, hf⟩ := x_bind hf
  obtain ⟨w110, hw110, hf⟩ := x_bind hf
  refine x_callVv C dX3_drawStep_110 113 rfl ho110 cl3.1 rfl (cX3_standOnc hw110) kX3_standOn kvX3_standOn w1172 ⟨rfl, rfl⟩ ⟨Nat.le_of_ble_eq_true rfl, Nat.le_of_ble_eq_true rfl⟩ ⟨Nat.zero_le _, Nat.zero_le _⟩ rfl rfl (Nat.le_of_ble_eq_true rfl) ?_
  refine x_aload_n C dX3_drawStep_113 114 rfl 0 rfl rfl ?_
  obtain ⟨v114, hv114, hf⟩ := x_bind hf
  refine x_getR C dX3_drawStep_114 117 rfl hv114 cl3 rfl w469 ?_
  refine x_iload_n C dX3_drawStep_117 118 rfl 1 rfl rfl ?_
  refine x_aload_n C dX3_drawStep_118 119 rfl 0 rfl rfl ?_
  obtain ⟨v119, hv119, hf⟩ := x_bind hf
  refine x_getI C dX3_drawStep_119 122 rfl hv119 cl3 rfl w463 ?_
  obtain ⟨σ122, hσ122, hf⟩ := x_bind hf
  refine x_iastore C dX3_drawStep_122 123 rfl hσ122 ?_
  refine x_aload_n C dX3_drawStep_123 124 rfl 0 rfl rfl ?_
  refine x_aload_n C dX3_drawStep_124 125 rfl 0 rfl rfl ?_
  obtain ⟨v125, hv125, hf⟩ := x_bind hf
  refine x_getR C dX3_drawStep_125 128 rfl hv125 cl3 rfl w468 ?_
  refine x_iload_n C dX3_drawStep_128 129 rfl 1 rfl rfl ?_
  obtain ⟨v129, hv129, hf⟩ := x_bind hf
  refine x_iaload C dX3_drawStep_129 130 rfl hv129 ?_
  refine x_iload_n C dX3_drawStep_130 131 rfl 1 rfl rfl ?_
  obtain ⟨o131, ho131, hf⟩ := x_bind hf
  obtain ⟨w131, hw131, hf⟩ := x_bind hf
  refine x_callVv C dX3_drawStep_131 134 rfl ho131 cl3.1 rfl (cX3_addLettersc hw131) kX3_addLetters kvX3_addLetters w1158 ⟨rfl, rfl⟩ ⟨Nat.le_of_ble_eq_true rfl, Nat.le_of_ble_eq_true rfl⟩ ⟨Nat.zero_le _, Nat.zero_le _⟩ rfl rfl (Nat.le_of_ble_eq_true rfl) ?_
  refine x_aload_n C dX3_drawStep_134 135 rfl 0 rfl rfl ?_
  refine x_iload_n C dX3_drawStep_135 136 rfl 2 rfl rfl ?_
  refine x_iload_n C dX3_drawStep_136 137 rfl 1 rfl rfl ?_
  obtain ⟨o137, ho137, hf⟩ := x_bind hf
  obtain ⟨w137, hw137, hf⟩ := x_bind hf
  refine x_callVv C dX3_drawStep_137 140 rfl ho137 cl3.1 rfl (cX3_replaceInRowc hw137) kX3_replaceInRow kvX3_replaceInRow w1183 ⟨rfl, rfl⟩ ⟨Nat.le_of_ble_eq_true rfl, Nat.le_of_ble_eq_true rfl⟩ ⟨Nat.zero_le _, Nat.zero_le _⟩ rfl rfl (Nat.le_of_ble_eq_true rfl) ?_
  exact x_vret C (hE _ (Option.some.inj hf).symm) dX3_drawStep_140
theorem dX3_layTold_0 : decode cX3_layTold 0 = .ok (.aload_n 0, 1) := by decide +kernel
theorem dX3_layTold_1 : decode cX3_layTold 1 = .ok (.iload_n 1, 1) := by decide +kernel
theorem dX3_layTold_2 : decode cX3_layTold 2 = .ok (.putfield 22, 3) := by decide +kernel
theorem dX3_layTold_5 : decode cX3_layTold 5 = .ok (.iconst 0, 1) := by decide +kernel
theorem dX3_layTold_6 : decode cX3_layTold 6 = .ok (.istore_n 2, 1) := by decide +kernel
theorem dX3_layTold_7 : decode cX3_layTold 7 = .ok (.iload_n 2, 1) := by decide +kernel
theorem dX3_layTold_8 : decode cX3_layTold 8 = .ok (.iload_n 1, 1) := by decide +kernel
theorem dX3_layTold_9 : decode cX3_layTold 9 = .ok (.if_icmp .ge 16, 3) := by decide +kernel
theorem dX3_layTold_12 : decode cX3_layTold 12 = .ok (.aload_n 0, 1) := by decide +kernel
theorem dX3_layTold_13 : decode cX3_layTold 13 = .ok (.getfield 18, 3) := by decide +kernel
theorem dX3_layTold_16 : decode cX3_layTold 16 = .ok (.iload_n 2, 1) := by decide +kernel
theorem dX3_layTold_17 : decode cX3_layTold 17 = .ok (.iload_n 2, 1) := by decide +kernel
theorem dX3_layTold_18 : decode cX3_layTold 18 = .ok (.iastore, 1) := by decide +kernel
theorem dX3_layTold_19 : decode cX3_layTold 19 = .ok (.iinc 2 1, 3) := by decide +kernel
theorem dX3_layTold_22 : decode cX3_layTold 22 = .ok (.goto (-15), 3) := by decide +kernel
theorem dX3_layTold_25 : decode cX3_layTold 25 = .ok (.return_, 1) := by decide +kernel
abbrev rmX3_layTold : Room := { frames := 0, cells := 0, slots := 0, locals := 0 }
noncomputable def fLX3_layTold_7 (x0 : Nat) (x1 : Int32) (a : Int32 × St) : Option ((Int32 × St) ⊕ (St)) :=
if x1 ≤ a.1 then
(some (Sum.inr a.2))
else
((gR a.2 x0 3 3).bind fun v13 =>
(sI a.2 v13 a.1 a.1).bind fun σ18 =>
xlet (a.1 + 1) fun v19 =>
some (Sum.inl (v19, σ18)))
set_option maxHeartbeats 4000000 in
set_option maxRecDepth 100000 in
theorem lpX3_layTold_7 {X : xX} {x0 : Nat} {x1 : Int32}  {a0 : Int32 × St} {b : St} (C : Ok X cX3_layTold 3 RX3 rmX3_layTold none) (hb : iterP (fLX3_layTold_7 x0 x1) a0 = some b) (hy0 : ∀ s, b = s → V X (0, 0) s 25 [] []) : V X (0, 0) a0.2 7 [(0, .ref (x0)), (1, .int (x1)), (2, .int (a0.1))] [] := by
  obtain ⟨n, hn⟩ := iterP_some hb
  refine x_loop (P := fun a => V X (0, 0) a.2 7 [(0, .ref (x0)), (1, .int (x1)), (2, .int (a.1))] []) ?_ n a0 hn
  intro a c hf hK hxx
  have hx0 : ∀ s, c = Sum.inr s → V X (0, 0) s 25 [] [] := fun s e => hy0 s (hxx _ e).symm
  unfold fLX3_layTold_7 at hf
  refine x_iload_n C dX3_layTold_7 8 rfl 2 rfl rfl ?_
  refine x_iload_n C dX3_layTold_8 9 rfl 1 rfl rfl ?_
  refine x_icmp_ge C dX3_layTold_9 25 (by decide) 12 rfl (fun hc => ?_) (fun hc => ?_)
  · have hf := (if_pos hc).symm.trans hf
    refine x_lv [] (lv' := []) rfl ?_
    exact hx0 _ (Option.some.inj hf).symm
  · have hf := (if_neg hc).symm.trans hf
    refine x_aload_n C dX3_layTold_12 13 rfl 0 rfl rfl ?_
    obtain ⟨v13, hv13, hf⟩ := x_bind hf
    refine x_getR C dX3_layTold_13 16 rfl hv13 cl3 rfl w461 ?_
    refine x_iload_n C dX3_layTold_16 17 rfl 2 rfl rfl ?_
    refine x_iload_n C dX3_layTold_17 18 rfl 2 rfl rfl ?_
    obtain ⟨σ18, hσ18, hf⟩ := x_bind hf
    refine x_iastore C dX3_layTold_18 19 rfl hσ18 ?_
    obtain ⟨v19, ev19, hf⟩ := xlet_some hf
    refine x_iinc C dX3_layTold_19 22 rfl 2 rfl v19 ev19 rfl [(2, .int (v19)), (0, .ref (x0)), (1, .int (x1))] rfl ?_
    refine x_goto C dX3_layTold_22 7 (by decide) ?_
    refine x_lv [1, 2, 0] (lv' := [(0, .ref (x0)), (1, .int (x1)), (2, .int (v19))]) rfl ?_
    exact hK _ (Option.some.inj hf).symm
noncomputable def fX3_layTold (σ : St) (x0 : Nat) (x1 : Int32) : Option (St) :=
(wrF σ x0 3 4 (.int (x1))).bind fun σ2 =>
(iterP (fLX3_layTold_7 x0 x1) (0, σ2)).bind fun b7 =>
some b7
set_option maxHeartbeats 4000000 in
set_option maxRecDepth 100000 in
theorem cX3_layToldc {l : Launch} {G : xG} {A : Nat → Prop} {σ : St} {x0 : Nat} {x1 : Int32} {c : St} (hf : fX3_layTold σ x0 x1 = some c) : Con l yX3_layTold (xws yX3_layTold cX3_layTold 3 none) rmX3_layTold [.ref (x0), .int (x1)] G A σ none c := by
  refine x_start rfl (Nat.le_of_ble_eq_true rfl) (fun X _ _ _ C hE0 => ?_)
  have hE : ∀ r, c = r → xE1 X none r := fun r e => e ▸ hE0
  show V X (0, 0) σ 0 [(0, .ref (x0)), (1, .int (x1))] []
  unfold fX3_layTold at hf
  refine x_aload_n C dX3_layTold_0 1 rfl 0 rfl rfl ?_
  refine x_iload_n C dX3_layTold_1 2 rfl 1 rfl rfl ?_
  obtain ⟨σ2, hσ2, hf⟩ := x_bind hf
  refine x_putX C dX3_layTold_2 5 rfl hσ2 cl3 rfl w462 rfl rfl rfl ?_
  refine x_iconst C dX3_layTold_5 6 rfl 0 (by decide) ?_
  refine x_istore_n C dX3_layTold_6 7 rfl rfl rfl [(2, .int (0)), (0, .ref (x0)), (1, .int (x1))] rfl ?_
  obtain ⟨b7, hb7, hf⟩ := x_bind hf
  refine x_lv [1, 2, 0] (lv' := [(0, .ref (x0)), (1, .int (x1)), (2, .int (0))]) rfl ?_
  refine lpX3_layTold_7 C hb7 (fun s7 e7 => ?_)
  subst e7
  exact x_vret C (hE _ (Option.some.inj hf).symm) dX3_layTold_25
theorem dX3_liesAt_0 : decode cX3_liesAt 0 = .ok (.iload_n 1, 1) := by decide +kernel
theorem dX3_liesAt_1 : decode cX3_liesAt 1 = .ok (.aload_n 0, 1) := by decide +kernel
theorem dX3_liesAt_2 : decode cX3_liesAt 2 = .ok (.getfield 37, 3) := by decide +kernel
theorem dX3_liesAt_5 : decode cX3_liesAt 5 = .ok (.iload_n 2, 1) := by decide +kernel
theorem dX3_liesAt_6 : decode cX3_liesAt 6 = .ok (.iaload, 1) := by decide +kernel
theorem dX3_liesAt_7 : decode cX3_liesAt 7 = .ok (.iadd, 1) := by decide +kernel
theorem dX3_liesAt_8 : decode cX3_liesAt 8 = .ok (.aload_n 0, 1) := by decide +kernel
theorem dX3_liesAt_9 : decode cX3_liesAt 9 = .ok (.getfield 22, 3) := by decide +kernel
theorem dX3_liesAt_12 : decode cX3_liesAt 12 = .ok (.if_icmp .le 5, 3) := by decide +kernel
theorem dX3_liesAt_15 : decode cX3_liesAt 15 = .ok (.iconst 0, 1) := by decide +kernel
theorem dX3_liesAt_16 : decode cX3_liesAt 16 = .ok (.ireturn, 1) := by decide +kernel
theorem dX3_liesAt_17 : decode cX3_liesAt 17 = .ok (.iconst 0, 1) := by decide +kernel
theorem dX3_liesAt_18 : decode cX3_liesAt 18 = .ok (.istore_n 3, 1) := by decide +kernel
theorem dX3_liesAt_19 : decode cX3_liesAt 19 = .ok (.iload_n 3, 1) := by decide +kernel
theorem dX3_liesAt_20 : decode cX3_liesAt 20 = .ok (.aload_n 0, 1) := by decide +kernel
theorem dX3_liesAt_21 : decode cX3_liesAt 21 = .ok (.getfield 37, 3) := by decide +kernel
theorem dX3_liesAt_24 : decode cX3_liesAt 24 = .ok (.iload_n 2, 1) := by decide +kernel
theorem dX3_liesAt_25 : decode cX3_liesAt 25 = .ok (.iaload, 1) := by decide +kernel
theorem dX3_liesAt_26 : decode cX3_liesAt 26 = .ok (.if_icmp .ge 33, 3) := by decide +kernel
theorem dX3_liesAt_29 : decode cX3_liesAt 29 = .ok (.aload_n 0, 1) := by decide +kernel
theorem dX3_liesAt_30 : decode cX3_liesAt 30 = .ok (.getfield 18, 3) := by decide +kernel
theorem dX3_liesAt_33 : decode cX3_liesAt 33 = .ok (.iload_n 1, 1) := by decide +kernel
theorem dX3_liesAt_34 : decode cX3_liesAt 34 = .ok (.iload_n 3, 1) := by decide +kernel
theorem dX3_liesAt_35 : decode cX3_liesAt 35 = .ok (.iadd, 1) := by decide +kernel
theorem dX3_liesAt_36 : decode cX3_liesAt 36 = .ok (.iaload, 1) := by decide +kernel
theorem dX3_liesAt_37 : decode cX3_liesAt 37 = .ok (.aload_n 0, 1) := by decide +kernel
theorem dX3_liesAt_38 : decode cX3_liesAt 38 = .ok (.getfield 34, 3) := by decide +kernel
theorem dX3_liesAt_41 : decode cX3_liesAt 41 = .ok (.iload_n 2, 1) := by decide +kernel
theorem dX3_liesAt_42 : decode cX3_liesAt 42 = .ok (.bipush 16, 2) := by decide +kernel
theorem dX3_liesAt_44 : decode cX3_liesAt 44 = .ok (.imul, 1) := by decide +kernel
theorem dX3_liesAt_45 : decode cX3_liesAt 45 = .ok (.iload_n 3, 1) := by decide +kernel
theorem dX3_liesAt_46 : decode cX3_liesAt 46 = .ok (.iadd, 1) := by decide +kernel
theorem dX3_liesAt_47 : decode cX3_liesAt 47 = .ok (.iaload, 1) := by decide +kernel
theorem dX3_liesAt_48 : decode cX3_liesAt 48 = .ok (.if_icmp .eq 5, 3) := by decide +kernel
theorem dX3_liesAt_51 : decode cX3_liesAt 51 = .ok (.iconst 0, 1) := by decide +kernel
theorem dX3_liesAt_52 : decode cX3_liesAt 52 = .ok (.ireturn, 1) := by decide +kernel
theorem dX3_liesAt_53 : decode cX3_liesAt 53 = .ok (.iinc 3 1, 3) := by decide +kernel
theorem dX3_liesAt_56 : decode cX3_liesAt 56 = .ok (.goto (-37), 3) := by decide +kernel
theorem dX3_liesAt_59 : decode cX3_liesAt 59 = .ok (.iconst 1, 1) := by decide +kernel
theorem dX3_liesAt_60 : decode cX3_liesAt 60 = .ok (.ireturn, 1) := by decide +kernel
abbrev rmX3_liesAt : Room := { frames := 0, cells := 0, slots := 0, locals := 0 }
noncomputable def fLX3_liesAt_19 (σ : St) (x0 : Nat) (x1 : Int32) (x2 : Int32) (a : Int32) : Option ((Int32) ⊕ ((Unit) ⊕ (Unit))) :=
(gR σ x0 3 9).bind fun v21 =>
(aI σ v21 0 x2).bind fun v25 =>
if v25 ≤ a then
(some (Sum.inr (Sum.inr ())))
else
((gR σ x0 3 3).bind fun v30 =>
(aI σ v30 0 (x1 + a)).bind fun v36 =>
(gR σ x0 3 8).bind fun v38 =>
(aI σ v38 0 ((x2 * 16) + a)).bind fun v47 =>
if v36 = v47 then
(xlet (a + 1) fun v53 =>
some (Sum.inl v53))
else
(some (Sum.inr (Sum.inl ()))))
set_option maxHeartbeats 4000000 in
set_option maxRecDepth 100000 in
theorem lpX3_liesAt_19 {X : xX} {σ : St} {x0 : Nat} {x1 : Int32} {x2 : Int32}  {a0 : Int32} {b : (Unit) ⊕ (Unit)} (C : Ok X cX3_liesAt 4 RX3 rmX3_liesAt (some .boolean)) (hb : iterP (fLX3_liesAt_19 σ x0 x1 x2) a0 = some b) (hy0 : ∀ s, b = (Sum.inl s) → V X (0, 0) σ 51 [] []) (hy1 : ∀ s, b = (Sum.inr s) → V X (0, 0) σ 59 [] []) : V X (0, 0) σ 19 [(0, .ref (x0)), (1, .int (x1)), (2, .int (x2)), (3, .int (a0))] [] := by
  obtain ⟨n, hn⟩ := iterP_some hb
  refine x_loop (P := fun a => V X (0, 0) σ 19 [(0, .ref (x0)), (1, .int (x1)), (2, .int (x2)), (3, .int (a))] []) ?_ n a0 hn
  intro a c hf hK hxx
  have hx0 : ∀ s, c = Sum.inr (Sum.inl s) → V X (0, 0) σ 51 [] [] := fun s e => hy0 s (hxx _ e).symm
  have hx1 : ∀ s, c = Sum.inr (Sum.inr s) → V X (0, 0) σ 59 [] [] := fun s e => hy1 s (hxx _ e).symm
  unfold fLX3_liesAt_19 at hf
  refine x_iload_n C dX3_liesAt_19 20 rfl 3 rfl rfl ?_
  refine x_aload_n C dX3_liesAt_20 21 rfl 0 rfl rfl ?_
  obtain ⟨v21, hv21, hf⟩ := x_bind hf
  refine x_getR C dX3_liesAt_21 24 rfl hv21 cl3 rfl w467 ?_
  refine x_iload_n C dX3_liesAt_24 25 rfl 2 rfl rfl ?_
  obtain ⟨v25, hv25, hf⟩ := x_bind hf
  refine x_iaload C dX3_liesAt_25 26 rfl hv25 ?_
  refine x_icmp_ge C dX3_liesAt_26 59 (by decide) 29 rfl (fun hc => ?_) (fun hc => ?_)
  · have hf := (if_pos hc).symm.trans hf
    refine x_lv [] (lv' := []) rfl ?_
    exact hx1 _ (Option.some.inj hf).symm
  · have hf := (if_neg hc).symm.trans hf
    refine x_aload_n C dX3_liesAt_29 30 rfl 0 rfl rfl ?_
    obtain ⟨v30, hv30, hf⟩ := x_bind hf
    refine x_getR C dX3_liesAt_30 33 rfl hv30 cl3 rfl w461 ?_
    refine x_iload_n C dX3_liesAt_33 34 rfl 1 rfl rfl ?_
    refine x_iload_n C dX3_liesAt_34 35 rfl 3 rfl rfl ?_
    refine x_iadd C dX3_liesAt_35 36 rfl ?_
    obtain ⟨v36, hv36, hf⟩ := x_bind hf
    refine x_iaload C dX3_liesAt_36 37 rfl hv36 ?_
    refine x_aload_n C dX3_liesAt_37 38 rfl 0 rfl rfl ?_
    obtain ⟨v38, hv38, hf⟩ := x_bind hf
    refine x_getR C dX3_liesAt_38 41 rfl hv38 cl3 rfl w466 ?_
    refine x_iload_n C dX3_liesAt_41 42 rfl 2 rfl rfl ?_
    refine x_bipush C dX3_liesAt_42 44 rfl 16 (by decide) ?_
    refine x_imul C dX3_liesAt_44 45 rfl ?_
    refine x_iload_n C dX3_liesAt_45 46 rfl 3 rfl rfl ?_
    refine x_iadd C dX3_liesAt_46 47 rfl ?_
    obtain ⟨v47, hv47, hf⟩ := x_bind hf
    refine x_iaload C dX3_liesAt_47 48 rfl hv47 ?_
    refine x_icmp_eq C dX3_liesAt_48 53 (by decide) 51 rfl (fun hc => ?_) (fun hc => ?_)
    · have hf := (if_pos hc).symm.trans hf
      obtain ⟨v53, ev53, hf⟩ := xlet_some hf
      refine x_iinc C dX3_liesAt_53 56 rfl 3 rfl v53 ev53 rfl [(3, .int (v53)), (0, .ref (x0)), (1, .int (x1)), (2, .int (x2))] rfl ?_
      refine x_goto C dX3_liesAt_56 19 (by decide) ?_
      refine x_lv [1, 2, 3, 0] (lv' := [(0, .ref (x0)), (1, .int (x1)), (2, .int (x2)), (3, .int (v53))]) rfl ?_
      exact hK _ (Option.some.inj hf).symm
    · have hf := (if_neg hc).symm.trans hf
      refine x_lv [] (lv' := []) rfl ?_
      exact hx0 _ (Option.some.inj hf).symm
noncomputable def fX3_liesAt (σ : St) (x0 : Nat) (x1 : Int32) (x2 : Int32) : Option (Int32) :=
(gR σ x0 3 9).bind fun v2 =>
(aI σ v2 0 x2).bind fun v6 =>
(gI σ x0 3 4).bind fun v9 =>
if (x1 + v6) ≤ v9 then
((iterP (fLX3_liesAt_19 σ x0 x1 x2) 0).bind fun b19 =>
(match b19 with
| .inl s19 =>
some 0
| .inr s19 =>
some 1))
else
(some 0)
set_option maxHeartbeats 4000000 in
set_option maxRecDepth 100000 in
theorem cX3_liesAtc {l : Launch} {G : xG} {A : Nat → Prop} {σ : St} {x0 : Nat} {x1 : Int32} {x2 : Int32} {c : Int32} (hf : fX3_liesAt σ x0 x1 x2 = some c) : Con l yX3_liesAt (xws yX3_liesAt cX3_liesAt 4 (some .boolean)) rmX3_liesAt [.ref (x0), .int (x1), .int (x2)] G A σ (some (.int c)) σ := by
  refine x_start rfl (Nat.le_of_ble_eq_true rfl) (fun X _ _ _ C hE0 => ?_)
  have hE : ∀ r, c = r → xE1 X (some (.int r)) σ := fun r e => e ▸ hE0
  show V X (0, 0) σ 0 [(0, .ref (x0)), (1, .int (x1)), (2, .int (x2))] []
  unfold fX3_liesAt at hf
  refine x_iload_n C dX3_liesAt_0 1 rfl 1 rfl rfl ?_
  refine x_aload_n C dX3_liesAt_1 2 rfl 0 rfl rfl ?_
  obtain ⟨v2, hv2, hf⟩ := x_bind hf
  refine x_getR C dX3_liesAt_2 5 rfl hv2 cl3 rfl w467 ?_
  refine x_iload_n C dX3_liesAt_5 6 rfl 2 rfl rfl ?_
  obtain ⟨v6, hv6, hf⟩ := x_bind hf
  refine x_iaload C dX3_liesAt_6 7 rfl hv6 ?_
  refine x_iadd C dX3_liesAt_7 8 rfl ?_
  refine x_aload_n C dX3_liesAt_8 9 rfl 0 rfl rfl ?_
  obtain ⟨v9, hv9, hf⟩ := x_bind hf
  refine x_getI C dX3_liesAt_9 12 rfl hv9 cl3 rfl w462 ?_
  refine x_icmp_le C dX3_liesAt_12 17 (by decide) 15 rfl (fun hc => ?_) (fun hc => ?_)
  · have hf := (if_pos hc).symm.trans hf
    refine x_iconst C dX3_liesAt_17 18 rfl 0 (by decide) ?_
    refine x_istore_n C dX3_liesAt_18 19 rfl rfl rfl [(3, .int (0)), (0, .ref (x0)), (1, .int (x1)), (2, .int (x2))] rfl ?_
    obtain ⟨b19, hb19, hf⟩ := x_bind hf
    refine x_lv [1, 2, 3, 0] (lv' := [(0, .ref (x0)), (1, .int (x1)), (2, .int (x2)), (3, .int (0))]) rfl ?_
    refine lpX3_liesAt_19 C hb19 (fun s19 e19 => ?_) (fun s19 e19 => ?_)
    · subst e19
      try dsimp only at hf
      refine x_iconst C dX3_liesAt_51 52 rfl 0 (by decide) ?_
      exact x_zret C rfl (hE _ (Option.some.inj hf).symm) dX3_liesAt_52
    · subst e19
      try dsimp only at hf
      refine x_iconst C dX3_liesAt_59 60 rfl 1 (by decide) ?_
      exact x_zret C rfl (hE _ (Option.some.inj hf).symm) dX3_liesAt_60
  · have hf := (if_neg hc).symm.trans hf
    refine x_iconst C dX3_liesAt_15 16 rfl 0 (by decide) ?_
    exact x_zret C rfl (hE _ (Option.some.inj hf).symm) dX3_liesAt_16
theorem dX3_makeLeftmost_0 : decode cX3_makeLeftmost 0 = .ok (.iconst 0, 1) := by decide +kernel
theorem dX3_makeLeftmost_1 : decode cX3_makeLeftmost 1 = .ok (.istore_n 3, 1) := by decide +kernel
theorem dX3_makeLeftmost_2 : decode cX3_makeLeftmost 2 = .ok (.iload_n 3, 1) := by decide +kernel
theorem dX3_makeLeftmost_3 : decode cX3_makeLeftmost 3 = .ok (.aload_n 0, 1) := by decide +kernel
theorem dX3_makeLeftmost_4 : decode cX3_makeLeftmost 4 = .ok (.getfield 22, 3) := by decide +kernel
theorem dX3_makeLeftmost_7 : decode cX3_makeLeftmost 7 = .ok (.if_icmp .ge 80, 3) := by decide +kernel
theorem dX3_makeLeftmost_10 : decode cX3_makeLeftmost 10 = .ok (.aload_n 0, 1) := by decide +kernel
theorem dX3_makeLeftmost_11 : decode cX3_makeLeftmost 11 = .ok (.getfield 31, 3) := by decide +kernel
theorem dX3_makeLeftmost_14 : decode cX3_makeLeftmost 14 = .ok (.aload_n 0, 1) := by decide +kernel
theorem dX3_makeLeftmost_15 : decode cX3_makeLeftmost 15 = .ok (.getfield 18, 3) := by decide +kernel
theorem dX3_makeLeftmost_18 : decode cX3_makeLeftmost 18 = .ok (.iload_n 3, 1) := by decide +kernel
theorem dX3_makeLeftmost_19 : decode cX3_makeLeftmost 19 = .ok (.iaload, 1) := by decide +kernel
theorem dX3_makeLeftmost_20 : decode cX3_makeLeftmost 20 = .ok (.iaload, 1) := by decide +kernel
theorem dX3_makeLeftmost_21 : decode cX3_makeLeftmost 21 = .ok (.istore 4, 2) := by decide +kernel
theorem dX3_makeLeftmost_23 : decode cX3_makeLeftmost 23 = .ok (.iload 4, 2) := by decide +kernel
theorem dX3_makeLeftmost_25 : decode cX3_makeLeftmost 25 = .ok (.iconst (-1), 1) := by decide +kernel
theorem dX3_makeLeftmost_26 : decode cX3_makeLeftmost 26 = .ok (.if_icmp .eq 55, 3) := by decide +kernel
theorem dX3_makeLeftmost_29 : decode cX3_makeLeftmost 29 = .ok (.aload_n 0, 1) := by decide +kernel
theorem dX3_makeLeftmost_30 : decode cX3_makeLeftmost 30 = .ok (.iload_n 3, 1) := by decide +kernel
theorem dX3_makeLeftmost_31 : decode cX3_makeLeftmost 31 = .ok (.iload 4, 2) := by decide +kernel
theorem dX3_makeLeftmost_33 : decode cX3_makeLeftmost 33 = .ok (.invokevirtual 136, 3) := by decide +kernel
theorem dX3_makeLeftmost_36 : decode cX3_makeLeftmost 36 = .ok (.ifCond .eq 45, 3) := by decide +kernel
theorem dX3_makeLeftmost_39 : decode cX3_makeLeftmost 39 = .ok (.aload_n 0, 1) := by decide +kernel
theorem dX3_makeLeftmost_40 : decode cX3_makeLeftmost 40 = .ok (.getfield 52, 3) := by decide +kernel
theorem dX3_makeLeftmost_43 : decode cX3_makeLeftmost 43 = .ok (.iload 4, 2) := by decide +kernel
theorem dX3_makeLeftmost_45 : decode cX3_makeLeftmost 45 = .ok (.iload_n 2, 1) := by decide +kernel
theorem dX3_makeLeftmost_46 : decode cX3_makeLeftmost 46 = .ok (.iastore, 1) := by decide +kernel
theorem dX3_makeLeftmost_47 : decode cX3_makeLeftmost 47 = .ok (.aload_n 0, 1) := by decide +kernel
theorem dX3_makeLeftmost_48 : decode cX3_makeLeftmost 48 = .ok (.getfield 55, 3) := by decide +kernel
theorem dX3_makeLeftmost_51 : decode cX3_makeLeftmost 51 = .ok (.iload_n 2, 1) := by decide +kernel
theorem dX3_makeLeftmost_52 : decode cX3_makeLeftmost 52 = .ok (.iload_n 3, 1) := by decide +kernel
theorem dX3_makeLeftmost_53 : decode cX3_makeLeftmost 53 = .ok (.iastore, 1) := by decide +kernel
theorem dX3_makeLeftmost_54 : decode cX3_makeLeftmost 54 = .ok (.aload_n 0, 1) := by decide +kernel
theorem dX3_makeLeftmost_55 : decode cX3_makeLeftmost 55 = .ok (.getfield 58, 3) := by decide +kernel
theorem dX3_makeLeftmost_58 : decode cX3_makeLeftmost 58 = .ok (.iload_n 2, 1) := by decide +kernel
theorem dX3_makeLeftmost_59 : decode cX3_makeLeftmost 59 = .ok (.aload_n 0, 1) := by decide +kernel
theorem dX3_makeLeftmost_60 : decode cX3_makeLeftmost 60 = .ok (.getfield 61, 3) := by decide +kernel
theorem dX3_makeLeftmost_63 : decode cX3_makeLeftmost 63 = .ok (.iload_n 1, 1) := by decide +kernel
theorem dX3_makeLeftmost_64 : decode cX3_makeLeftmost 64 = .ok (.iload 4, 2) := by decide +kernel
theorem dX3_makeLeftmost_66 : decode cX3_makeLeftmost 66 = .ok (.invokevirtual 86, 3) := by decide +kernel
theorem dX3_makeLeftmost_69 : decode cX3_makeLeftmost 69 = .ok (.invokestatic 102, 3) := by decide +kernel
theorem dX3_makeLeftmost_72 : decode cX3_makeLeftmost 72 = .ok (.iastore, 1) := by decide +kernel
theorem dX3_makeLeftmost_73 : decode cX3_makeLeftmost 73 = .ok (.aload_n 0, 1) := by decide +kernel
theorem dX3_makeLeftmost_74 : decode cX3_makeLeftmost 74 = .ok (.iload_n 3, 1) := by decide +kernel
theorem dX3_makeLeftmost_75 : decode cX3_makeLeftmost 75 = .ok (.iload 4, 2) := by decide +kernel
theorem dX3_makeLeftmost_77 : decode cX3_makeLeftmost 77 = .ok (.invokevirtual 118, 3) := by decide +kernel
theorem dX3_makeLeftmost_80 : decode cX3_makeLeftmost 80 = .ok (.return_, 1) := by decide +kernel
theorem dX3_makeLeftmost_81 : decode cX3_makeLeftmost 81 = .ok (.iinc 3 1, 3) := by decide +kernel
theorem dX3_makeLeftmost_84 : decode cX3_makeLeftmost 84 = .ok (.goto (-82), 3) := by decide +kernel
theorem dX3_makeLeftmost_87 : decode cX3_makeLeftmost 87 = .ok (.return_, 1) := by decide +kernel
abbrev rmX3_makeLeftmost : Room := { frames := 2, cells := 0, slots := 0, locals := 84 }
noncomputable def fLX3_makeLeftmost_2 (σ : St) (x0 : Nat) (x1 : Int32) (x2 : Int32) (a : Int32) : Option ((Int32) ⊕ ((Int32 × Int32) ⊕ (Unit))) :=
(gI σ x0 3 4).bind fun v4 =>
if v4 ≤ a then
(some (Sum.inr (Sum.inr ())))
else
((gR σ x0 3 7).bind fun v11 =>
(gR σ x0 3 3).bind fun v15 =>
(aI σ v15 0 a).bind fun v19 =>
(aI σ v11 0 v19).bind fun v20 =>
if v20 = (((-1) : Int32)) then
(xlet (a + 1) fun v81 =>
some (Sum.inl v81))
else
((isO σ x0 3).bind fun _ =>
(fX3_liesAt σ x0 a v20).bind fun w33 =>
if w33 = 0 then
(xlet (a + 1) fun v81 =>
some (Sum.inl v81))
else
(some (Sum.inr (Sum.inl (a, v20))))))
set_option maxHeartbeats 4000000 in
set_option maxRecDepth 100000 in
theorem lpX3_makeLeftmost_2 {X : xX} {σ : St} {x0 : Nat} {x1 : Int32} {x2 : Int32}  {a0 : Int32} {b : (Int32 × Int32) ⊕ (Unit)} (C : Ok X cX3_makeLeftmost 5 RX3 rmX3_makeLeftmost none) (hb : iterP (fLX3_makeLeftmost_2 σ x0 x1 x2) a0 = some b) (hy0 : ∀ s, b = (Sum.inl s) → V X (0, 0) σ 39 [(0, .ref (x0)), (1, .int (x1)), (2, .int (x2)), (3, .int (s.1)), (4, .int (s.2))] []) (hy1 : ∀ s, b = (Sum.inr s) → V X (0, 0) σ 87 [] []) : V X (0, 0) σ 2 [(0, .ref (x0)), (1, .int (x1)), (2, .int (x2)), (3, .int (a0))] [] := by
  obtain ⟨n, hn⟩ := iterP_some hb
  refine x_loop (P := fun a => V X (0, 0) σ 2 [(0, .ref (x0)), (1, .int (x1)), (2, .int (x2)), (3, .int (a))] []) ?_ n a0 hn
  intro a c hf hK hxx
  have hx0 : ∀ s, c = Sum.inr (Sum.inl s) → V X (0, 0) σ 39 [(0, .ref (x0)), (1, .int (x1)), (2, .int (x2)), (3, .int (s.1)), (4, .int (s.2))] [] := fun s e => hy0 s (hxx _ e).symm
  have hx1 : ∀ s, c = Sum.inr (Sum.inr s) → V X (0, 0) σ 87 [] [] := fun s e => hy1 s (hxx _ e).symm
  unfold fLX3_makeLeftmost_2 at hf
  refine x_iload_n C dX3_makeLeftmost_2 3 rfl 3 rfl rfl ?_
  refine x_aload_n C dX3_makeLeftmost_3 4 rfl 0 rfl rfl ?_
  obtain ⟨v4, hv4, hf⟩ := x_bind hf
  refine x_getI C dX3_makeLeftmost_4 7 rfl hv4 cl3 rfl w462 ?_
  refine x_icmp_ge C dX3_makeLeftmost_7 87 (by decide) 10 rfl (fun hc => ?_) (fun hc => ?_)
  · have hf := (if_pos hc).symm.trans hf
    refine x_lv [] (lv' := []) rfl ?_
    exact hx1 _ (Option.some.inj hf).symm
  · have hf := (if_neg hc).symm.trans hf
    refine x_aload_n C dX3_makeLeftmost_10 11 rfl 0 rfl rfl ?_
    obtain ⟨v11, hv11, hf⟩ := x_bind hf
    refine x_getR C dX3_makeLeftmost_11 14 rfl hv11 cl3 rfl w465 ?_
    refine x_aload_n C dX3_makeLeftmost_14 15 rfl 0 rfl rfl ?_
    obtain ⟨v15, hv15, hf⟩ := x_bind hf
    refine x_getR C dX3_makeLeftmost_15 18 rfl hv15 cl3 rfl w461 ?_
    refine x_iload_n C dX3_makeLeftmost_18 19 rfl 3 rfl rfl ?_
    obtain ⟨v19, hv19, hf⟩ := x_bind hf
    refine x_iaload C dX3_makeLeftmost_19 20 rfl hv19 ?_
    obtain ⟨v20, hv20, hf⟩ := x_bind hf
    refine x_iaload C dX3_makeLeftmost_20 21 rfl hv20 ?_
    refine x_istore C dX3_makeLeftmost_21 23 rfl rfl [(4, .int (v20)), (0, .ref (x0)), (1, .int (x1)), (2, .int (x2)), (3, .int (a))] rfl ?_
    refine x_iload C dX3_makeLeftmost_23 25 rfl 0 rfl ?_
    refine x_iconst C dX3_makeLeftmost_25 26 rfl (-1) (by decide) ?_
    refine x_icmp_eq C dX3_makeLeftmost_26 81 (by decide) 29 rfl (fun hc => ?_) (fun hc => ?_)
    · have hf := (if_pos hc).symm.trans hf
      obtain ⟨v81, ev81, hf⟩ := xlet_some hf
      refine x_iinc C dX3_makeLeftmost_81 84 rfl 4 rfl v81 ev81 rfl [(3, .int (v81)), (4, .int (v20)), (0, .ref (x0)), (1, .int (x1)), (2, .int (x2))] rfl ?_
      refine x_goto C dX3_makeLeftmost_84 2 (by decide) ?_
      refine x_lv [2, 3, 4, 0] (lv' := [(0, .ref (x0)), (1, .int (x1)), (2, .int (x2)), (3, .int (v81))]) rfl ?_
      exact hK _ (Option.some.inj hf).symm
    · have hf := (if_neg hc).symm.trans hf
      refine x_aload_n C dX3_makeLeftmost_29 30 rfl 1 rfl rfl ?_
      refine x_iload_n C dX3_makeLeftmost_30 31 rfl 4 rfl rfl ?_
      refine x_iload C dX3_makeLeftmost_31 33 rfl 0 rfl ?_
      obtain ⟨o33, ho33, hf⟩ := x_bind hf
      obtain ⟨w33, hw33, hf⟩ := x_bind hf
      refine x_callVi C dX3_makeLeftmost_33 36 rfl ho33 cl3.1 rfl (cX3_liesAtc hw33) kX3_liesAt kvX3_liesAt w1192 ⟨rfl, rfl⟩ ⟨Nat.le_of_ble_eq_true rfl, Nat.le_of_ble_eq_true rfl⟩ ⟨Nat.zero_le _, Nat.zero_le _⟩ rfl rfl (Nat.le_of_ble_eq_true rfl) ?_
      refine x_if_eq C dX3_makeLeftmost_36 81 (by decide) 39 rfl (fun hc => ?_) (fun hc => ?_)
      · have hf := (if_pos hc).symm.trans hf
        obtain ⟨v81, ev81, hf⟩ := xlet_some hf
        refine x_iinc C dX3_makeLeftmost_81 84 rfl 4 rfl v81 ev81 rfl [(3, .int (v81)), (4, .int (v20)), (0, .ref (x0)), (1, .int (x1)), (2, .int (x2))] rfl ?_
        refine x_goto C dX3_makeLeftmost_84 2 (by decide) ?_
        refine x_lv [2, 3, 4, 0] (lv' := [(0, .ref (x0)), (1, .int (x1)), (2, .int (x2)), (3, .int (v81))]) rfl ?_
        exact hK _ (Option.some.inj hf).symm
      · have hf := (if_neg hc).symm.trans hf
        refine x_lv [1, 2, 3, 4, 0] (lv' := [(0, .ref (x0)), (1, .int (x1)), (2, .int (x2)), (3, .int (a)), (4, .int (v20))]) rfl ?_
        exact hx0 _ (Option.some.inj hf).symm
noncomputable def fX3_makeLeftmost (σ : St) (x0 : Nat) (x1 : Int32) (x2 : Int32) : Option (St) :=
(iterP (fLX3_makeLeftmost_2 σ x0 x1 x2) 0).bind fun b2 =>
(match b2 with
| .inl s2 =>
(gR σ x0 3 14).bind fun v40 =>
(sI σ v40 s2.2 x2).bind fun σ46 =>
(gR σ46 x0 3 15).bind fun v48 =>
(sI σ46 v48 x2 s2.1).bind fun σ53 =>
(gR σ53 x0 3 16).bind fun v55 =>
(gR σ53 x0 3 0).bind fun v60 =>
(isO σ53 v60 2).bind fun _ =>
(fX2_codeAt σ53 v60 x1 s2.2).bind fun w66 =>
(fX8_ruleOf w66).bind fun w69 =>
(sI σ53 v55 x2 w69).bind fun σ72 =>
(isO σ72 x0 3).bind fun _ =>
(fX3_replaceInRow σ72 x0 s2.1 s2.2).bind fun w77 =>
some w77
| .inr s2 =>
some σ)
set_option maxHeartbeats 4000000 in
set_option maxRecDepth 100000 in
theorem cX3_makeLeftmostc {l : Launch} {G : xG} {A : Nat → Prop} {σ : St} {x0 : Nat} {x1 : Int32} {x2 : Int32} {c : St} (hf : fX3_makeLeftmost σ x0 x1 x2 = some c) : Con l yX3_makeLeftmost (xws yX3_makeLeftmost cX3_makeLeftmost 5 none) rmX3_makeLeftmost [.ref (x0), .int (x1), .int (x2)] G A σ none c := by
  refine x_start rfl (Nat.le_of_ble_eq_true rfl) (fun X _ _ _ C hE0 => ?_)
  have hE : ∀ r, c = r → xE1 X none r := fun r e => e ▸ hE0
  show V X (0, 0) σ 0 [(0, .ref (x0)), (1, .int (x1)), (2, .int (x2))] []
  unfold fX3_makeLeftmost at hf
  refine x_iconst C dX3_makeLeftmost_0 1 rfl 0 (by decide) ?_
  refine x_istore_n C dX3_makeLeftmost_1 2 rfl rfl rfl [(3, .int (0)), (0, .ref (x0)), (1, .int (x1)), (2, .int (x2))] rfl ?_
  obtain ⟨b2, hb2, hf⟩ := x_bind hf
  refine x_lv [1, 2, 3, 0] (lv' := [(0, .ref (x0)), (1, .int (x1)), (2, .int (x2)), (3, .int (0))]) rfl ?_
  refine lpX3_makeLeftmost_2 C hb2 (fun s2 e2 => ?_) (fun s2 e2 => ?_)
  · subst e2
    try dsimp only at hf
    refine x_aload_n C dX3_makeLeftmost_39 40 rfl 0 rfl rfl ?_
    obtain ⟨v40, hv40, hf⟩ := x_bind hf
    refine x_getR C dX3_makeLeftmost_40 43 rfl hv40 cl3 rfl w474 ?_
    refine x_iload C dX3_makeLeftmost_43 45 rfl 4 rfl ?_
    refine x_iload_n C dX3_makeLeftmost_45 46 rfl 2 rfl rfl ?_
    obtain ⟨σ46, hσ46, hf⟩ := x_bind hf
    refine x_iastore C dX3_makeLeftmost_46 47 rfl hσ46 ?_
    refine x_aload_n C dX3_makeLeftmost_47 48 rfl 0 rfl rfl ?_
    obtain ⟨v48, hv48, hf⟩ := x_bind hf
    refine x_getR C dX3_makeLeftmost_48 51 rfl hv48 cl3 rfl w476 ?_
    refine x_iload_n C dX3_makeLeftmost_51 52 rfl 2 rfl rfl ?_
    refine x_iload_n C dX3_makeLeftmost_52 53 rfl 3 rfl rfl ?_
    obtain ⟨σ53, hσ53, hf⟩ := x_bind hf
    refine x_iastore C dX3_makeLeftmost_53 54 rfl hσ53 ?_
    refine x_aload_n C dX3_makeLeftmost_54 55 rfl 0 rfl rfl ?_
    obtain ⟨v55, hv55, hf⟩ := x_bind hf
    refine x_getR C dX3_makeLeftmost_55 58 rfl hv55 cl3 rfl w478 ?_
    refine x_iload_n C dX3_makeLeftmost_58 59 rfl 2 rfl rfl ?_
    refine x_aload_n C dX3_makeLeftmost_59 60 rfl 0 rfl rfl ?_
    obtain ⟨v60, hv60, hf⟩ := x_bind hf
    refine x_getR C dX3_makeLeftmost_60 63 rfl hv60 cl3 rfl w457 ?_
    refine x_iload_n C dX3_makeLeftmost_63 64 rfl 1 rfl rfl ?_
    refine x_iload C dX3_makeLeftmost_64 66 rfl 4 rfl ?_
    obtain ⟨o66, ho66, hf⟩ := x_bind hf
    obtain ⟨w66, hw66, hf⟩ := x_bind hf
    refine x_callVi C dX3_makeLeftmost_66 69 rfl ho66 cl2.1 rfl (cX2_codeAtc hw66) kX2_codeAt kvX2_codeAt w1162 ⟨rfl, rfl⟩ ⟨Nat.le_of_ble_eq_true rfl, Nat.le_of_ble_eq_true rfl⟩ ⟨Nat.zero_le _, Nat.zero_le _⟩ rfl rfl (Nat.le_of_ble_eq_true rfl) ?_
    obtain ⟨w69, hw69, hf⟩ := x_bind hf
    refine x_callSi C dX3_makeLeftmost_69 72 rfl (cX8_ruleOfc hw69) kX8_ruleOf ksX8_ruleOf w1171 ⟨rfl, rfl⟩ ⟨Nat.le_of_ble_eq_true rfl, Nat.le_of_ble_eq_true rfl⟩ ⟨Nat.zero_le _, Nat.zero_le _⟩ rfl rfl (Nat.le_of_ble_eq_true rfl) ?_
    obtain ⟨σ72, hσ72, hf⟩ := x_bind hf
    refine x_iastore C dX3_makeLeftmost_72 73 rfl hσ72 ?_
    refine x_aload_n C dX3_makeLeftmost_73 74 rfl 0 rfl rfl ?_
    refine x_iload_n C dX3_makeLeftmost_74 75 rfl 3 rfl rfl ?_
    refine x_iload C dX3_makeLeftmost_75 77 rfl 4 rfl ?_
    obtain ⟨o77, ho77, hf⟩ := x_bind hf
    obtain ⟨w77, hw77, hf⟩ := x_bind hf
    refine x_callVv C dX3_makeLeftmost_77 80 rfl ho77 cl3.1 rfl (cX3_replaceInRowc hw77) kX3_replaceInRow kvX3_replaceInRow w1183 ⟨rfl, rfl⟩ ⟨Nat.le_of_ble_eq_true rfl, Nat.le_of_ble_eq_true rfl⟩ ⟨Nat.zero_le _, Nat.zero_le _⟩ rfl rfl (Nat.le_of_ble_eq_true rfl) ?_
    exact x_vret C (hE _ (Option.some.inj hf).symm) dX3_makeLeftmost_80
  · subst e2
    try dsimp only at hf
    exact x_vret C (hE _ (Option.some.inj hf).symm) dX3_makeLeftmost_87
