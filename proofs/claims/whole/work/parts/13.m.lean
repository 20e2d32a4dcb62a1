/-! methods: X9_wasAhead X9_runFrom X11_tidy X11_undo X11_wordOnTape X12_leftOf X12_length X12_power X12_part X12_joined X12_put X12_made X12_rightOf -/
theorem dX9_wasAhead_0 : decode cX9_wasAhead 0 = .ok (.iconst 0, 1) := by decide +kernel
theorem dX9_wasAhead_1 : decode cX9_wasAhead 1 = .ok (.istore_n 1, 1) := by decide +kernel
theorem dX9_wasAhead_2 : decode cX9_wasAhead 2 = .ok (.iload_n 1, 1) := by decide +kernel
theorem dX9_wasAhead_3 : decode cX9_wasAhead 3 = .ok (.aload_n 0, 1) := by decide +kernel
theorem dX9_wasAhead_4 : decode cX9_wasAhead 4 = .ok (.getfield 19, 3) := by decide +kernel
theorem dX9_wasAhead_7 : decode cX9_wasAhead 7 = .ok (.if_icmp .ge 30, 3) := by decide +kernel
theorem dX9_wasAhead_10 : decode cX9_wasAhead 10 = .ok (.aload_n 0, 1) := by decide +kernel
theorem dX9_wasAhead_11 : decode cX9_wasAhead 11 = .ok (.getfield 11, 3) := by decide +kernel
theorem dX9_wasAhead_14 : decode cX9_wasAhead 14 = .ok (.iload_n 1, 1) := by decide +kernel
theorem dX9_wasAhead_15 : decode cX9_wasAhead 15 = .ok (.laload, 1) := by decide +kernel
theorem dX9_wasAhead_16 : decode cX9_wasAhead 16 = .ok (.aload_n 0, 1) := by decide +kernel
theorem dX9_wasAhead_17 : decode cX9_wasAhead 17 = .ok (.getfield 11, 3) := by decide +kernel
theorem dX9_wasAhead_20 : decode cX9_wasAhead 20 = .ok (.aload_n 0, 1) := by decide +kernel
theorem dX9_wasAhead_21 : decode cX9_wasAhead 21 = .ok (.getfield 19, 3) := by decide +kernel
theorem dX9_wasAhead_24 : decode cX9_wasAhead 24 = .ok (.laload, 1) := by decide +kernel
theorem dX9_wasAhead_25 : decode cX9_wasAhead 25 = .ok (.lcmp, 1) := by decide +kernel
theorem dX9_wasAhead_26 : decode cX9_wasAhead 26 = .ok (.ifCond .ne 5, 3) := by decide +kernel
theorem dX9_wasAhead_29 : decode cX9_wasAhead 29 = .ok (.iconst 1, 1) := by decide +kernel
theorem dX9_wasAhead_30 : decode cX9_wasAhead 30 = .ok (.ireturn, 1) := by decide +kernel
theorem dX9_wasAhead_31 : decode cX9_wasAhead 31 = .ok (.iinc 1 1, 3) := by decide +kernel
theorem dX9_wasAhead_34 : decode cX9_wasAhead 34 = .ok (.goto (-32), 3) := by decide +kernel
theorem dX9_wasAhead_37 : decode cX9_wasAhead 37 = .ok (.iconst 0, 1) := by decide +kernel
theorem dX9_wasAhead_38 : decode cX9_wasAhead 38 = .ok (.ireturn, 1) := by decide +kernel
abbrev rmX9_wasAhead : Room := { frames := 0, cells := 0, slots := 0, locals := 0 }
noncomputable def fLX9_wasAhead_2 (σ : St) (x0 : Nat) (a : Int32) : Option ((Int32) ⊕ ((Unit) ⊕ (Unit))) :=
(gI σ x0 9 3).bind fun v4 =>
if v4 ≤ a then
(some (Sum.inr (Sum.inr ())))
else
((gR σ x0 9 1).bind fun v11 =>
(aL σ v11 a).bind fun v15 =>
(gR σ x0 9 1).bind fun v17 =>
(gI σ x0 9 3).bind fun v21 =>
(aL σ v17 v21).bind fun v24 =>
if (lg_cmp v15 v24) = 0 then
(some (Sum.inr (Sum.inl ())))
else
(xlet (a + 1) fun v31 =>
some (Sum.inl v31)))
set_option maxHeartbeats 4000000 in
set_option maxRecDepth 100000 in
theorem lpX9_wasAhead_2 {X : xX} {σ : St} {x0 : Nat}  {a0 : Int32} {b : (Unit) ⊕ (Unit)} (C : Ok X cX9_wasAhead 2 RX9 rmX9_wasAhead (some .boolean)) (hb : iterP (fLX9_wasAhead_2 σ x0) a0 = some b) (hy0 : ∀ s, b = (Sum.inl s) → V X (0, 0) σ 29 [] []) (hy1 : ∀ s, b = (Sum.inr s) → V X (0, 0) σ 37 [] []) : V X (0, 0) σ 2 [(0, .ref (x0)), (1, .int (a0))] [] := by
  obtain ⟨n, hn⟩ := iterP_some hb
  refine x_loop (P := fun a => V X (0, 0) σ 2 [(0, .ref (x0)), (1, .int (a))] []) ?_ n a0 hn
  intro a c hf hK hxx
  have hx0 : ∀ s, c = Sum.inr (Sum.inl s) → V X (0, 0) σ 29 [] [] := fun s e => hy0 s (hxx _ e).symm
  have hx1 : ∀ s, c = Sum.inr (Sum.inr s) → V X (0, 0) σ 37 [] [] := fun s e => hy1 s (hxx _ e).symm
  unfold fLX9_wasAhead_2 at hf
  refine x_iload_n C dX9_wasAhead_2 3 rfl 1 rfl rfl ?_
  refine x_aload_n C dX9_wasAhead_3 4 rfl 0 rfl rfl ?_
  obtain ⟨v4, hv4, hf⟩ := x_bind hf
  refine x_getI C dX9_wasAhead_4 7 rfl hv4 cl9 rfl w316 ?_
  refine x_icmp_ge C dX9_wasAhead_7 37 (by decide) 10 rfl (fun hc => ?_) (fun hc => ?_)
  · have hf := (if_pos hc).symm.trans hf
    refine x_lv [] (lv' := []) rfl ?_
    exact hx1 _ (Option.some.inj hf).symm
  · have hf := (if_neg hc).symm.trans hf
    refine x_aload_n C dX9_wasAhead_10 11 rfl 0 rfl rfl ?_
    obtain ⟨v11, hv11, hf⟩ := x_bind hf
    refine x_getR C dX9_wasAhead_11 14 rfl hv11 cl9 rfl w313 ?_
    refine x_iload_n C dX9_wasAhead_14 15 rfl 1 rfl rfl ?_
    obtain ⟨v15, hv15, hf⟩ := x_bind hf
    refine x_laload C dX9_wasAhead_15 16 rfl hv15 ?_
    refine x_aload_n C dX9_wasAhead_16 17 rfl 0 rfl rfl ?_
    obtain ⟨v17, hv17, hf⟩ := x_bind hf
    refine x_getR C dX9_wasAhead_17 20 rfl hv17 cl9 rfl w313 ?_
    refine x_aload_n C dX9_wasAhead_20 21 rfl 0 rfl rfl ?_
    obtain ⟨v21, hv21, hf⟩ := x_bind hf
    refine x_getI C dX9_wasAhead_21 24 rfl hv21 cl9 rfl w316 ?_
    obtain ⟨v24, hv24, hf⟩ := x_bind hf
    refine x_laload C dX9_wasAhead_24 25 rfl hv24 ?_
    refine x_lcmp C dX9_wasAhead_25 26 rfl ?_
    refine x_if_ne C dX9_wasAhead_26 31 (by decide) 29 rfl (fun hc => ?_) (fun hc => ?_)
    · have hf := (if_neg hc).symm.trans hf
      obtain ⟨v31, ev31, hf⟩ := xlet_some hf
      refine x_iinc C dX9_wasAhead_31 34 rfl 1 rfl v31 ev31 rfl [(1, .int (v31)), (0, .ref (x0))] rfl ?_
      refine x_goto C dX9_wasAhead_34 2 (by decide) ?_
      refine x_lv [1, 0] (lv' := [(0, .ref (x0)), (1, .int (v31))]) rfl ?_
      exact hK _ (Option.some.inj hf).symm
    · have hf := (if_pos hc).symm.trans hf
      refine x_lv [] (lv' := []) rfl ?_
      exact hx0 _ (Option.some.inj hf).symm
noncomputable def fX9_wasAhead (σ : St) (x0 : Nat) : Option (Int32) :=
(iterP (fLX9_wasAhead_2 σ x0) 0).bind fun b2 =>
(match b2 with
| .inl s2 =>
some 1
| .inr s2 =>
some 0)
set_option maxHeartbeats 4000000 in
set_option maxRecDepth 100000 in
theorem cX9_wasAheadc {l : Launch} {G : xG} {A : Nat → Prop} {σ : St} {x0 : Nat} {c : Int32} (hf : fX9_wasAhead σ x0 = some c) : Con l yX9_wasAhead (xws yX9_wasAhead cX9_wasAhead 2 (some .boolean)) rmX9_wasAhead [.ref (x0)] G A σ (some (.int c)) σ := by
  refine x_start rfl (Nat.le_of_ble_eq_true rfl) (fun X _ _ _ C hE0 => ?_)
  have hE : ∀ r, c = r → xE1 X (some (.int r)) σ := fun r e => e ▸ hE0
  show V X (0, 0) σ 0 [(0, .ref (x0))] []
  unfold fX9_wasAhead at hf
  refine x_iconst C dX9_wasAhead_0 1 rfl 0 (by decide) ?_
  refine x_istore_n C dX9_wasAhead_1 2 rfl rfl rfl [(1, .int (0)), (0, .ref (x0))] rfl ?_
  obtain ⟨b2, hb2, hf⟩ := x_bind hf
  refine x_lv [1, 0] (lv' := [(0, .ref (x0)), (1, .int (0))]) rfl ?_
  refine lpX9_wasAhead_2 C hb2 (fun s2 e2 => ?_) (fun s2 e2 => ?_)
  · subst e2
    try dsimp only at hf
    refine x_iconst C dX9_wasAhead_29 30 rfl 1 (by decide) ?_
    exact x_zret C rfl (hE _ (Option.some.inj hf).symm) dX9_wasAhead_30
  · subst e2
    try dsimp only at hf
    refine x_iconst C dX9_wasAhead_37 38 rfl 0 (by decide) ?_
    exact x_zret C rfl (hE _ (Option.some.inj hf).symm) dX9_wasAhead_38
theorem dX9_runFrom_0 : decode cX9_runFrom 0 = .ok (.aload_n 0, 1) := by decide +kernel
theorem dX9_runFrom_1 : decode cX9_runFrom 1 = .ok (.getfield 11, 3) := by decide +kernel
theorem dX9_runFrom_4 : decode cX9_runFrom 4 = .ok (.iconst 0, 1) := by decide +kernel
theorem dX9_runFrom_5 : decode cX9_runFrom 5 = .ok (.lload_n 1, 1) := by decide +kernel
theorem dX9_runFrom_6 : decode cX9_runFrom 6 = .ok (.lastore, 1) := by decide +kernel
theorem dX9_runFrom_7 : decode cX9_runFrom 7 = .ok (.aload_n 0, 1) := by decide +kernel
theorem dX9_runFrom_8 : decode cX9_runFrom 8 = .ok (.iconst 0, 1) := by decide +kernel
theorem dX9_runFrom_9 : decode cX9_runFrom 9 = .ok (.putfield 19, 3) := by decide +kernel
theorem dX9_runFrom_12 : decode cX9_runFrom 12 = .ok (.aload_n 0, 1) := by decide +kernel
theorem dX9_runFrom_13 : decode cX9_runFrom 13 = .ok (.getfield 19, 3) := by decide +kernel
theorem dX9_runFrom_16 : decode cX9_runFrom 16 = .ok (.bipush 60, 2) := by decide +kernel
theorem dX9_runFrom_18 : decode cX9_runFrom 18 = .ok (.if_icmp .ge 110, 3) := by decide +kernel
theorem dX9_runFrom_21 : decode cX9_runFrom 21 = .ok (.aload_n 0, 1) := by decide +kernel
theorem dX9_runFrom_22 : decode cX9_runFrom 22 = .ok (.aload_n 0, 1) := by decide +kernel
theorem dX9_runFrom_23 : decode cX9_runFrom 23 = .ok (.getfield 11, 3) := by decide +kernel
theorem dX9_runFrom_26 : decode cX9_runFrom 26 = .ok (.aload_n 0, 1) := by decide +kernel
theorem dX9_runFrom_27 : decode cX9_runFrom 27 = .ok (.getfield 19, 3) := by decide +kernel
theorem dX9_runFrom_30 : decode cX9_runFrom 30 = .ok (.laload, 1) := by decide +kernel
theorem dX9_runFrom_31 : decode cX9_runFrom 31 = .ok (.iload_n 3, 1) := by decide +kernel
theorem dX9_runFrom_32 : decode cX9_runFrom 32 = .ok (.invokevirtual 30, 3) := by decide +kernel
theorem dX9_runFrom_35 : decode cX9_runFrom 35 = .ok (.istore 4, 2) := by decide +kernel
theorem dX9_runFrom_37 : decode cX9_runFrom 37 = .ok (.iload 4, 2) := by decide +kernel
theorem dX9_runFrom_39 : decode cX9_runFrom 39 = .ok (.iconst (-1), 1) := by decide +kernel
theorem dX9_runFrom_40 : decode cX9_runFrom 40 = .ok (.if_icmp .eq 10, 3) := by decide +kernel
theorem dX9_runFrom_43 : decode cX9_runFrom 43 = .ok (.aload_n 0, 1) := by decide +kernel
theorem dX9_runFrom_44 : decode cX9_runFrom 44 = .ok (.invokevirtual 34, 3) := by decide +kernel
theorem dX9_runFrom_47 : decode cX9_runFrom 47 = .ok (.ifCond .eq 28, 3) := by decide +kernel
theorem dX9_runFrom_50 : decode cX9_runFrom 50 = .ok (.aload_n 0, 1) := by decide +kernel
theorem dX9_runFrom_51 : decode cX9_runFrom 51 = .ok (.iload 4, 2) := by decide +kernel
theorem dX9_runFrom_53 : decode cX9_runFrom 53 = .ok (.iconst (-1), 1) := by decide +kernel
theorem dX9_runFrom_54 : decode cX9_runFrom 54 = .ok (.if_icmp .ne 7, 3) := by decide +kernel
theorem dX9_runFrom_57 : decode cX9_runFrom 57 = .ok (.iconst 0, 1) := by decide +kernel
theorem dX9_runFrom_58 : decode cX9_runFrom 58 = .ok (.goto 4, 3) := by decide +kernel
theorem dX9_runFrom_61 : decode cX9_runFrom 61 = .ok (.iconst 1, 1) := by decide +kernel
theorem dX9_runFrom_62 : decode cX9_runFrom 62 = .ok (.putfield 23, 3) := by decide +kernel
theorem dX9_runFrom_65 : decode cX9_runFrom 65 = .ok (.aload_n 0, 1) := by decide +kernel
theorem dX9_runFrom_66 : decode cX9_runFrom 66 = .ok (.getfield 11, 3) := by decide +kernel
theorem dX9_runFrom_69 : decode cX9_runFrom 69 = .ok (.aload_n 0, 1) := by decide +kernel
theorem dX9_runFrom_70 : decode cX9_runFrom 70 = .ok (.getfield 19, 3) := by decide +kernel
theorem dX9_runFrom_73 : decode cX9_runFrom 73 = .ok (.laload, 1) := by decide +kernel
theorem dX9_runFrom_74 : decode cX9_runFrom 74 = .ok (.lreturn, 1) := by decide +kernel
theorem dX9_runFrom_75 : decode cX9_runFrom 75 = .ok (.aload_n 0, 1) := by decide +kernel
theorem dX9_runFrom_76 : decode cX9_runFrom 76 = .ok (.getfield 15, 3) := by decide +kernel
theorem dX9_runFrom_79 : decode cX9_runFrom 79 = .ok (.aload_n 0, 1) := by decide +kernel
theorem dX9_runFrom_80 : decode cX9_runFrom 80 = .ok (.getfield 19, 3) := by decide +kernel
theorem dX9_runFrom_83 : decode cX9_runFrom 83 = .ok (.iload 4, 2) := by decide +kernel
theorem dX9_runFrom_85 : decode cX9_runFrom 85 = .ok (.iastore, 1) := by decide +kernel
theorem dX9_runFrom_86 : decode cX9_runFrom 86 = .ok (.aload_n 0, 1) := by decide +kernel
theorem dX9_runFrom_87 : decode cX9_runFrom 87 = .ok (.getfield 11, 3) := by decide +kernel
theorem dX9_runFrom_90 : decode cX9_runFrom 90 = .ok (.aload_n 0, 1) := by decide +kernel
theorem dX9_runFrom_91 : decode cX9_runFrom 91 = .ok (.getfield 19, 3) := by decide +kernel
theorem dX9_runFrom_94 : decode cX9_runFrom 94 = .ok (.iconst 1, 1) := by decide +kernel
theorem dX9_runFrom_95 : decode cX9_runFrom 95 = .ok (.iadd, 1) := by decide +kernel
theorem dX9_runFrom_96 : decode cX9_runFrom 96 = .ok (.aload_n 0, 1) := by decide +kernel
theorem dX9_runFrom_97 : decode cX9_runFrom 97 = .ok (.getfield 26, 3) := by decide +kernel
theorem dX9_runFrom_100 : decode cX9_runFrom 100 = .ok (.aload_n 0, 1) := by decide +kernel
theorem dX9_runFrom_101 : decode cX9_runFrom 101 = .ok (.getfield 11, 3) := by decide +kernel
theorem dX9_runFrom_104 : decode cX9_runFrom 104 = .ok (.aload_n 0, 1) := by decide +kernel
theorem dX9_runFrom_105 : decode cX9_runFrom 105 = .ok (.getfield 19, 3) := by decide +kernel
theorem dX9_runFrom_108 : decode cX9_runFrom 108 = .ok (.laload, 1) := by decide +kernel
theorem dX9_runFrom_109 : decode cX9_runFrom 109 = .ok (.iload 4, 2) := by decide +kernel
theorem dX9_runFrom_111 : decode cX9_runFrom 111 = .ok (.invokevirtual 38, 3) := by decide +kernel
theorem dX9_runFrom_114 : decode cX9_runFrom 114 = .ok (.lastore, 1) := by decide +kernel
theorem dX9_runFrom_115 : decode cX9_runFrom 115 = .ok (.aload_n 0, 1) := by decide +kernel
theorem dX9_runFrom_116 : decode cX9_runFrom 116 = .ok (.dup, 1) := by decide +kernel
theorem dX9_runFrom_117 : decode cX9_runFrom 117 = .ok (.getfield 19, 3) := by decide +kernel
theorem dX9_runFrom_120 : decode cX9_runFrom 120 = .ok (.iconst 1, 1) := by decide +kernel
theorem dX9_runFrom_121 : decode cX9_runFrom 121 = .ok (.iadd, 1) := by decide +kernel
theorem dX9_runFrom_122 : decode cX9_runFrom 122 = .ok (.putfield 19, 3) := by decide +kernel
theorem dX9_runFrom_125 : decode cX9_runFrom 125 = .ok (.goto (-113), 3) := by decide +kernel
theorem dX9_runFrom_128 : decode cX9_runFrom 128 = .ok (.aload_n 0, 1) := by decide +kernel
theorem dX9_runFrom_129 : decode cX9_runFrom 129 = .ok (.aload_n 0, 1) := by decide +kernel
theorem dX9_runFrom_130 : decode cX9_runFrom 130 = .ok (.getfield 11, 3) := by decide +kernel
theorem dX9_runFrom_133 : decode cX9_runFrom 133 = .ok (.aload_n 0, 1) := by decide +kernel
theorem dX9_runFrom_134 : decode cX9_runFrom 134 = .ok (.getfield 19, 3) := by decide +kernel
theorem dX9_runFrom_137 : decode cX9_runFrom 137 = .ok (.laload, 1) := by decide +kernel
theorem dX9_runFrom_138 : decode cX9_runFrom 138 = .ok (.iload_n 3, 1) := by decide +kernel
theorem dX9_runFrom_139 : decode cX9_runFrom 139 = .ok (.invokevirtual 30, 3) := by decide +kernel
theorem dX9_runFrom_142 : decode cX9_runFrom 142 = .ok (.iconst (-1), 1) := by decide +kernel
theorem dX9_runFrom_143 : decode cX9_runFrom 143 = .ok (.if_icmp .ne 11, 3) := by decide +kernel
theorem dX9_runFrom_146 : decode cX9_runFrom 146 = .ok (.aload_n 0, 1) := by decide +kernel
theorem dX9_runFrom_147 : decode cX9_runFrom 147 = .ok (.iconst 0, 1) := by decide +kernel
theorem dX9_runFrom_148 : decode cX9_runFrom 148 = .ok (.putfield 23, 3) := by decide +kernel
theorem dX9_runFrom_151 : decode cX9_runFrom 151 = .ok (.goto 19, 3) := by decide +kernel
theorem dX9_runFrom_154 : decode cX9_runFrom 154 = .ok (.aload_n 0, 1) := by decide +kernel
theorem dX9_runFrom_155 : decode cX9_runFrom 155 = .ok (.aload_n 0, 1) := by decide +kernel
theorem dX9_runFrom_156 : decode cX9_runFrom 156 = .ok (.invokevirtual 34, 3) := by decide +kernel
theorem dX9_runFrom_159 : decode cX9_runFrom 159 = .ok (.ifCond .eq 7, 3) := by decide +kernel
theorem dX9_runFrom_162 : decode cX9_runFrom 162 = .ok (.iconst 1, 1) := by decide +kernel
theorem dX9_runFrom_163 : decode cX9_runFrom 163 = .ok (.goto 4, 3) := by decide +kernel
theorem dX9_runFrom_166 : decode cX9_runFrom 166 = .ok (.iconst 2, 1) := by decide +kernel
theorem dX9_runFrom_167 : decode cX9_runFrom 167 = .ok (.putfield 23, 3) := by decide +kernel
theorem dX9_runFrom_170 : decode cX9_runFrom 170 = .ok (.aload_n 0, 1) := by decide +kernel
theorem dX9_runFrom_171 : decode cX9_runFrom 171 = .ok (.getfield 11, 3) := by decide +kernel
theorem dX9_runFrom_174 : decode cX9_runFrom 174 = .ok (.aload_n 0, 1) := by decide +kernel
theorem dX9_runFrom_175 : decode cX9_runFrom 175 = .ok (.getfield 19, 3) := by decide +kernel
theorem dX9_runFrom_178 : decode cX9_runFrom 178 = .ok (.laload, 1) := by decide +kernel
theorem dX9_runFrom_179 : decode cX9_runFrom 179 = .ok (.lreturn, 1) := by decide +kernel
abbrev rmX9_runFrom : Room := { frames := 3, cells := 0, slots := 0, locals := 117 }
noncomputable def fLX9_runFrom_12 (x0 : Nat) (x3 : Int32) (a : St) : Option ((St) ⊕ ((Int32 × St) ⊕ (St))) :=
(gI a x0 9 3).bind fun v13 =>
if ((60 : Int32)) ≤ v13 then
(some (Sum.inr (Sum.inr a)))
else
((gR a x0 9 1).bind fun v23 =>
(gI a x0 9 3).bind fun v27 =>
(aL a v23 v27).bind fun v30 =>
(isO a x0 9).bind fun _ =>
(fX9_choose a x0 v30 x3).bind fun w32 =>
if w32 = (((-1) : Int32)) then
(some (Sum.inr (Sum.inl (w32, a))))
else
((isO a x0 9).bind fun _ =>
(fX9_wasAhead a x0).bind fun w44 =>
if w44 = 0 then
((gR a x0 9 2).bind fun v76 =>
(gI a x0 9 3).bind fun v80 =>
(sI a v76 v80 w32).bind fun σ85 =>
(gR σ85 x0 9 1).bind fun v87 =>
(gI σ85 x0 9 3).bind fun v91 =>
(gR σ85 x0 9 0).bind fun v97 =>
(gR σ85 x0 9 1).bind fun v101 =>
(gI σ85 x0 9 3).bind fun v105 =>
(aL σ85 v101 v105).bind fun v108 =>
(isO σ85 v97 8).bind fun _ =>
(fX8_after σ85 v97 v108 w32).bind fun w111 =>
(sL σ85 v87 (v91 + 1) w111).bind fun σ114 =>
(gI σ114 x0 9 3).bind fun v117 =>
(wrF σ114 x0 9 3 (.int (v117 + 1))).bind fun σ122 =>
some (Sum.inl σ122))
else
(some (Sum.inr (Sum.inl (w32, a))))))
set_option maxHeartbeats 4000000 in
set_option maxRecDepth 100000 in
theorem lpX9_runFrom_12 {X : xX} {x0 : Nat} {x3 : Int32}  {a0 : St} {b : (Int32 × St) ⊕ (St)} (C : Ok X cX9_runFrom 5 RX9 rmX9_runFrom (some .long)) (hb : iterP (fLX9_runFrom_12 x0 x3) a0 = some b) (hy0 : ∀ s, b = (Sum.inl s) → V X (0, 0) s.2 50 [(0, .ref (x0)), (4, .int (s.1))] []) (hy1 : ∀ s, b = (Sum.inr s) → V X (0, 0) s 128 [(0, .ref (x0)), (3, .int (x3))] []) : V X (0, 0) a0 12 [(0, .ref (x0)), (3, .int (x3))] [] := by
  obtain ⟨n, hn⟩ := iterP_some hb
  refine x_loop (P := fun a => V X (0, 0) a 12 [(0, .ref (x0)), (3, .int (x3))] []) ?_ n a0 hn
  intro a c hf hK hxx
  have hx0 : ∀ s, c = Sum.inr (Sum.inl s) → V X (0, 0) s.2 50 [(0, .ref (x0)), (4, .int (s.1))] [] := fun s e => hy0 s (hxx _ e).symm
  have hx1 : ∀ s, c = Sum.inr (Sum.inr s) → V X (0, 0) s 128 [(0, .ref (x0)), (3, .int (x3))] [] := fun s e => hy1 s (hxx _ e).symm
  unfold fLX9_runFrom_12 at hf
  refine x_aload_n C dX9_runFrom_12 13 rfl 0 rfl rfl ?_
  obtain ⟨v13, hv13, hf⟩ := x_bind hf
  refine x_getI C dX9_runFrom_13 16 rfl hv13 cl9 rfl w316 ?_
  refine x_bipush C dX9_runFrom_16 18 rfl 60 (by decide) ?_
  refine x_icmp_ge C dX9_runFrom_18 128 (by decide) 21 rfl (fun hc => ?_) (fun hc => ?_)
  · have hf := (if_pos hc).symm.trans hf
    exact hx1 _ (Option.some.inj hf).symm
  · have hf := (if_neg hc).symm.trans hf
    refine x_aload_n C dX9_runFrom_21 22 rfl 0 rfl rfl ?_
    refine x_aload_n C dX9_runFrom_22 23 rfl 0 rfl rfl ?_
    obtain ⟨v23, hv23, hf⟩ := x_bind hf
    refine x_getR C dX9_runFrom_23 26 rfl hv23 cl9 rfl w313 ?_
    refine x_aload_n C dX9_runFrom_26 27 rfl 0 rfl rfl ?_
    obtain ⟨v27, hv27, hf⟩ := x_bind hf
    refine x_getI C dX9_runFrom_27 30 rfl hv27 cl9 rfl w316 ?_
    obtain ⟨v30, hv30, hf⟩ := x_bind hf
    refine x_laload C dX9_runFrom_30 31 rfl hv30 ?_
    refine x_iload_n C dX9_runFrom_31 32 rfl 1 rfl rfl ?_
    obtain ⟨o32, ho32, hf⟩ := x_bind hf
    obtain ⟨w32, hw32, hf⟩ := x_bind hf
    refine x_callVi C dX9_runFrom_32 35 rfl ho32 cl9.1 rfl (cX9_choosec hw32) kX9_choose kvX9_choose w659 ⟨rfl, rfl⟩ ⟨Nat.le_of_ble_eq_true rfl, Nat.le_of_ble_eq_true rfl⟩ ⟨Nat.zero_le _, Nat.zero_le _⟩ rfl rfl (Nat.le_of_ble_eq_true rfl) ?_
    refine x_istore C dX9_runFrom_35 37 rfl rfl [(4, .int (w32)), (0, .ref (x0)), (3, .int (x3))] rfl ?_
    refine x_iload C dX9_runFrom_37 39 rfl 0 rfl ?_
    refine x_iconst C dX9_runFrom_39 40 rfl (-1) (by decide) ?_
    refine x_icmp_eq C dX9_runFrom_40 50 (by decide) 43 rfl (fun hc => ?_) (fun hc => ?_)
    · have hf := (if_pos hc).symm.trans hf
      refine x_lv [1, 0] (lv' := [(0, .ref (x0)), (4, .int (w32))]) rfl ?_
      exact hx0 _ (Option.some.inj hf).symm
    · have hf := (if_neg hc).symm.trans hf
      refine x_aload_n C dX9_runFrom_43 44 rfl 1 rfl rfl ?_
      obtain ⟨o44, ho44, hf⟩ := x_bind hf
      obtain ⟨w44, hw44, hf⟩ := x_bind hf
      refine x_callVi C dX9_runFrom_44 47 rfl ho44 cl9.1 rfl (cX9_wasAheadc hw44) kX9_wasAhead kvX9_wasAhead w684 ⟨rfl, rfl⟩ ⟨Nat.le_of_ble_eq_true rfl, Nat.le_of_ble_eq_true rfl⟩ ⟨Nat.zero_le _, Nat.zero_le _⟩ rfl rfl (Nat.le_of_ble_eq_true rfl) ?_
      refine x_if_eq C dX9_runFrom_47 75 (by decide) 50 rfl (fun hc => ?_) (fun hc => ?_)
      · have hf := (if_pos hc).symm.trans hf
        refine x_aload_n C dX9_runFrom_75 76 rfl 1 rfl rfl ?_
        obtain ⟨v76, hv76, hf⟩ := x_bind hf
        refine x_getR C dX9_runFrom_76 79 rfl hv76 cl9 rfl w314 ?_
        refine x_aload_n C dX9_runFrom_79 80 rfl 1 rfl rfl ?_
        obtain ⟨v80, hv80, hf⟩ := x_bind hf
        refine x_getI C dX9_runFrom_80 83 rfl hv80 cl9 rfl w316 ?_
        refine x_iload C dX9_runFrom_83 85 rfl 0 rfl ?_
        obtain ⟨σ85, hσ85, hf⟩ := x_bind hf
        refine x_iastore C dX9_runFrom_85 86 rfl hσ85 ?_
        refine x_aload_n C dX9_runFrom_86 87 rfl 1 rfl rfl ?_
        obtain ⟨v87, hv87, hf⟩ := x_bind hf
        refine x_getR C dX9_runFrom_87 90 rfl hv87 cl9 rfl w313 ?_
        refine x_aload_n C dX9_runFrom_90 91 rfl 1 rfl rfl ?_
        obtain ⟨v91, hv91, hf⟩ := x_bind hf
        refine x_getI C dX9_runFrom_91 94 rfl hv91 cl9 rfl w316 ?_
        refine x_iconst C dX9_runFrom_94 95 rfl 1 (by decide) ?_
        refine x_iadd C dX9_runFrom_95 96 rfl ?_
        refine x_aload_n C dX9_runFrom_96 97 rfl 1 rfl rfl ?_
        obtain ⟨v97, hv97, hf⟩ := x_bind hf
        refine x_getR C dX9_runFrom_97 100 rfl hv97 cl9 rfl w312 ?_
        refine x_aload_n C dX9_runFrom_100 101 rfl 1 rfl rfl ?_
        obtain ⟨v101, hv101, hf⟩ := x_bind hf
        refine x_getR C dX9_runFrom_101 104 rfl hv101 cl9 rfl w313 ?_
        refine x_aload_n C dX9_runFrom_104 105 rfl 1 rfl rfl ?_
        obtain ⟨v105, hv105, hf⟩ := x_bind hf
        refine x_getI C dX9_runFrom_105 108 rfl hv105 cl9 rfl w316 ?_
        obtain ⟨v108, hv108, hf⟩ := x_bind hf
        refine x_laload C dX9_runFrom_108 109 rfl hv108 ?_
        refine x_iload C dX9_runFrom_109 111 rfl 0 rfl ?_
        obtain ⟨o111, ho111, hf⟩ := x_bind hf
        obtain ⟨w111, hw111, hf⟩ := x_bind hf
        refine x_callVl C dX9_runFrom_111 114 rfl ho111 cl8.1 rfl (cX8_afterc hw111) kX8_after kvX8_after w670 ⟨rfl, rfl⟩ ⟨Nat.le_of_ble_eq_true rfl, Nat.le_of_ble_eq_true rfl⟩ ⟨Nat.zero_le _, Nat.zero_le _⟩ rfl rfl (Nat.le_of_ble_eq_true rfl) ?_
        obtain ⟨σ114, hσ114, hf⟩ := x_bind hf
        refine x_lastore C dX9_runFrom_114 115 rfl hσ114 ?_
        refine x_aload_n C dX9_runFrom_115 116 rfl 1 rfl rfl ?_
        refine x_dup C dX9_runFrom_116 117 rfl rfl ?_
        obtain ⟨v117, hv117, hf⟩ := x_bind hf
        refine x_getI C dX9_runFrom_117 120 rfl hv117 cl9 rfl w316 ?_
        refine x_iconst C dX9_runFrom_120 121 rfl 1 (by decide) ?_
        refine x_iadd C dX9_runFrom_121 122 rfl ?_
        obtain ⟨σ122, hσ122, hf⟩ := x_bind hf
        refine x_putX C dX9_runFrom_122 125 rfl hσ122 cl9 rfl w316 rfl rfl rfl ?_
        refine x_goto C dX9_runFrom_125 12 (by decide) ?_
        refine x_lv [1, 2] (lv' := [(0, .ref (x0)), (3, .int (x3))]) rfl ?_
        exact hK _ (Option.some.inj hf).symm
      · have hf := (if_neg hc).symm.trans hf
        refine x_lv [1, 0] (lv' := [(0, .ref (x0)), (4, .int (w32))]) rfl ?_
        exact hx0 _ (Option.some.inj hf).symm
noncomputable def fJX9_runFrom_m_50 (σ : St) (x0 : Nat) (x4 : Int32)  : Option ((Int64 × St)) :=
if x4 = (((-1) : Int32)) then
((wrF σ x0 9 4 (.int (0))).bind fun σ62 =>
(gR σ62 x0 9 1).bind fun v66 =>
(gI σ62 x0 9 3).bind fun v70 =>
(aL σ62 v66 v70).bind fun v73 =>
some (v73, σ62))
else
((wrF σ x0 9 4 (.int (1))).bind fun σ62 =>
(gR σ62 x0 9 1).bind fun v66 =>
(gI σ62 x0 9 3).bind fun v70 =>
(aL σ62 v66 v70).bind fun v73 =>
some (v73, σ62))
set_option maxHeartbeats 4000000 in
set_option maxRecDepth 100000 in
theorem jnX9_runFrom_m_50 {X : xX} {σ : St} {x0 : Nat} {x4 : Int32}   {c : (Int64 × St)} (C : Ok X cX9_runFrom 5 RX9 rmX9_runFrom (some .long)) (hf : fJX9_runFrom_m_50 σ x0 x4  = some c) (hE : ∀ r, c = r → xE1 X (some (.long r.1)) r.2) : V X (0, 0) σ 50 [(0, .ref (x0)), (4, .int (x4))] [] := by
  unfold fJX9_runFrom_m_50 at hf
  refine x_aload_n C dX9_runFrom_50 51 rfl 0 rfl rfl ?_
  refine x_iload C dX9_runFrom_51 53 rfl 1 rfl ?_
  refine x_iconst C dX9_runFrom_53 54 rfl (-1) (by decide) ?_
  refine x_icmp_ne C dX9_runFrom_54 61 (by decide) 57 rfl (fun hc => ?_) (fun hc => ?_)
  · have hf := (if_neg hc).symm.trans hf
    refine x_iconst C dX9_runFrom_61 62 rfl 1 (by decide) ?_
    obtain ⟨σ62, hσ62, hf⟩ := x_bind hf
    refine x_putX C dX9_runFrom_62 65 rfl hσ62 cl9 rfl w318 rfl rfl rfl ?_
    refine x_aload_n C dX9_runFrom_65 66 rfl 0 rfl rfl ?_
    obtain ⟨v66, hv66, hf⟩ := x_bind hf
    refine x_getR C dX9_runFrom_66 69 rfl hv66 cl9 rfl w313 ?_
    refine x_aload_n C dX9_runFrom_69 70 rfl 0 rfl rfl ?_
    obtain ⟨v70, hv70, hf⟩ := x_bind hf
    refine x_getI C dX9_runFrom_70 73 rfl hv70 cl9 rfl w316 ?_
    obtain ⟨v73, hv73, hf⟩ := x_bind hf
    refine x_laload C dX9_runFrom_73 74 rfl hv73 ?_
    exact x_lret C (hE _ (Option.some.inj hf).symm) dX9_runFrom_74
  · have hf := (if_pos hc).symm.trans hf
    refine x_iconst C dX9_runFrom_57 58 rfl 0 (by decide) ?_
    refine x_goto C dX9_runFrom_58 62 (by decide) ?_
    obtain ⟨σ62, hσ62, hf⟩ := x_bind hf
    refine x_putX C dX9_runFrom_62 65 rfl hσ62 cl9 rfl w318 rfl rfl rfl ?_
    refine x_aload_n C dX9_runFrom_65 66 rfl 0 rfl rfl ?_
    obtain ⟨v66, hv66, hf⟩ := x_bind hf
    refine x_getR C dX9_runFrom_66 69 rfl hv66 cl9 rfl w313 ?_
    refine x_aload_n C dX9_runFrom_69 70 rfl 0 rfl rfl ?_
    obtain ⟨v70, hv70, hf⟩ := x_bind hf
    refine x_getI C dX9_runFrom_70 73 rfl hv70 cl9 rfl w316 ?_
    obtain ⟨v73, hv73, hf⟩ := x_bind hf
    refine x_laload C dX9_runFrom_73 74 rfl hv73 ?_
    exact x_lret C (hE _ (Option.some.inj hf).symm) dX9_runFrom_74
noncomputable def fX9_runFrom (σ : St) (x0 : Nat) (x1 : Int64) (x3 : Int32) : Option ((Int64 × St)) :=
(gR σ x0 9 1).bind fun v1 =>
(sL σ v1 0 x1).bind fun σ6 =>
(wrF σ6 x0 9 3 (.int (0))).bind fun σ9 =>
(iterP (fLX9_runFrom_12 x0 x3) σ9).bind fun b12 =>
(match b12 with
| .inl s12 =>
fJX9_runFrom_m_50 s12.2 x0 s12.1
| .inr s12 =>
(gR s12 x0 9 1).bind fun v130 =>
(gI s12 x0 9 3).bind fun v134 =>
(aL s12 v130 v134).bind fun v137 =>
(isO s12 x0 9).bind fun _ =>
(fX9_choose s12 x0 v137 x3).bind fun w139 =>
if w139 = (((-1) : Int32)) then
((wrF s12 x0 9 4 (.int (0))).bind fun σ148 =>
(gR σ148 x0 9 1).bind fun v171 =>
(gI σ148 x0 9 3).bind fun v175 =>
(aL σ148 v171 v175).bind fun v178 =>
some (v178, σ148))
else
((isO s12 x0 9).bind fun _ =>
(fX9_wasAhead s12 x0).bind fun w156 =>
if w156 = 0 then
((wrF s12 x0 9 4 (.int (2))).bind fun σ167 =>
(gR σ167 x0 9 1).bind fun v171 =>
(gI σ167 x0 9 3).bind fun v175 =>
(aL σ167 v171 v175).bind fun v178 =>
some (v178, σ167))
else
((wrF s12 x0 9 4 (.int (1))).bind fun σ167 =>
(gR σ167 x0 9 1).bind fun v171 =>
(gI σ167 x0 9 3).bind fun v175 =>
(aL σ167 v171 v175).bind fun v178 =>
some (v178, σ167))))
set_option maxHeartbeats 4000000 in
set_option maxRecDepth 100000 in
theorem cX9_runFromc {l : Launch} {G : xG} {A : Nat → Prop} {σ : St} {x0 : Nat} {x1 : Int64} {x3 : Int32} {c : (Int64 × St)} (hf : fX9_runFrom σ x0 x1 x3 = some c) : Con l yX9_runFrom (xws yX9_runFrom cX9_runFrom 5 (some .long)) rmX9_runFrom [.ref (x0), .long (x1), .int (x3)] G A σ (some (.long c.1)) c.2 := by
  refine x_start rfl (Nat.le_of_ble_eq_true rfl) (fun X _ _ _ C hE0 => ?_)
  have hE : ∀ r, c = r → xE1 X (some (.long r.1)) r.2 := fun r e => e ▸ hE0
  show V X (0, 0) σ 0 [(0, .ref (x0)), (1, .long (x1)), (3, .int (x3))] []
  unfold fX9_runFrom at hf
  refine x_aload_n C dX9_runFrom_0 1 rfl 0 rfl rfl ?_
  obtain ⟨v1, hv1, hf⟩ := x_bind hf
  refine x_getR C dX9_runFrom_1 4 rfl hv1 cl9 rfl w313 ?_
  refine x_iconst C dX9_runFrom_4 5 rfl 0 (by decide) ?_
  refine x_lload_n C dX9_runFrom_5 6 rfl 1 rfl rfl ?_
  obtain ⟨σ6, hσ6, hf⟩ := x_bind hf
  refine x_lastore C dX9_runFrom_6 7 rfl hσ6 ?_
  refine x_aload_n C dX9_runFrom_7 8 rfl 0 rfl rfl ?_
  refine x_iconst C dX9_runFrom_8 9 rfl 0 (by decide) ?_
  obtain ⟨σ9, hσ9, hf⟩ := x_bind hf
  refine x_putX C dX9_runFrom_9 12 rfl hσ9 cl9 rfl w316 rfl rfl rfl ?_
  obtain ⟨b12, hb12, hf⟩ := x_bind hf
  refine x_lv [0, 2] (lv' := [(0, .ref (x0)), (3, .int (x3))]) rfl ?_
  refine lpX9_runFrom_12 C hb12 (fun s12 e12 => ?_) (fun s12 e12 => ?_)
  · subst e12
    try dsimp only at hf
    exact jnX9_runFrom_m_50 C hf hE
  · subst e12
    try dsimp only at hf
    refine x_aload_n C dX9_runFrom_128 129 rfl 0 rfl rfl ?_
    refine x_aload_n C dX9_runFrom_129 130 rfl 0 rfl rfl ?_
    obtain ⟨v130, hv130, hf⟩ := x_bind hf
    refine x_getR C dX9_runFrom_130 133 rfl hv130 cl9 rfl w313 ?_
    refine x_aload_n C dX9_runFrom_133 134 rfl 0 rfl rfl ?_
    obtain ⟨v134, hv134, hf⟩ := x_bind hf
    refine x_getI C dX9_runFrom_134 137 rfl hv134 cl9 rfl w316 ?_
    obtain ⟨v137, hv137, hf⟩ := x_bind hf
    refine x_laload C dX9_runFrom_137 138 rfl hv137 ?_
    refine x_iload_n C dX9_runFrom_138 139 rfl 1 rfl rfl ?_
    obtain ⟨o139, ho139, hf⟩ := x_bind hf
    obtain ⟨w139, hw139, hf⟩ := x_bind hf
    refine x_callVi C dX9_runFrom_139 142 rfl ho139 cl9.1 rfl (cX9_choosec hw139) kX9_choose kvX9_choose w659 ⟨rfl, rfl⟩ ⟨Nat.le_of_ble_eq_true rfl, Nat.le_of_ble_eq_true rfl⟩ ⟨Nat.zero_le _, Nat.zero_le _⟩ rfl rfl (Nat.le_of_ble_eq_true rfl) ?_
    refine x_iconst C dX9_runFrom_142 143 rfl (-1) (by decide) ?_
    refine x_icmp_ne C dX9_runFrom_143 154 (by decide) 146 rfl (fun hc => ?_) (fun hc => ?_)
    · have hf := (if_neg hc).symm.trans hf
      refine x_aload_n C dX9_runFrom_154 155 rfl 0 rfl rfl ?_
      refine x_aload_n C dX9_runFrom_155 156 rfl 0 rfl rfl ?_
      obtain ⟨o156, ho156, hf⟩ := x_bind hf
      obtain ⟨w156, hw156, hf⟩ := x_bind hf
      refine x_callVi C dX9_runFrom_156 159 rfl ho156 cl9.1 rfl (cX9_wasAheadc hw156) kX9_wasAhead kvX9_wasAhead w684 ⟨rfl, rfl⟩ ⟨Nat.le_of_ble_eq_true rfl, Nat.le_of_ble_eq_true rfl⟩ ⟨Nat.zero_le _, Nat.zero_le _⟩ rfl rfl (Nat.le_of_ble_eq_true rfl) ?_
      refine x_if_eq C dX9_runFrom_159 166 (by decide) 162 rfl (fun hc => ?_) (fun hc => ?_)
      · have hf := (if_pos hc).symm.trans hf
        refine x_iconst C dX9_runFrom_166 167 rfl 2 (by decide) ?_
        obtain ⟨σ167, hσ167, hf⟩ := x_bind hf
        refine x_putX C dX9_runFrom_167 170 rfl hσ167 cl9 rfl w318 rfl rfl rfl ?_
        refine x_aload_n C dX9_runFrom_170 171 rfl 0 rfl rfl ?_
        obtain ⟨v171, hv171, hf⟩ := x_bind hf
        refine x_getR C dX9_runFrom_171 174 rfl hv171 cl9 rfl w313 ?_
        refine x_aload_n C dX9_runFrom_174 175 rfl 0 rfl rfl ?_
        obtain ⟨v175, hv175, hf⟩ := x_bind hf
        refine x_getI C dX9_runFrom_175 178 rfl hv175 cl9 rfl w316 ?_
        obtain ⟨v178, hv178, hf⟩ := x_bind hf
        refine x_laload C dX9_runFrom_178 179 rfl hv178 ?_
        exact x_lret C (hE _ (Option.some.inj hf).symm) dX9_runFrom_179
      · have hf := (if_neg hc).symm.trans hf
        refine x_iconst C dX9_runFrom_162 163 rfl 1 (by decide) ?_
        refine x_goto C dX9_runFrom_163 167 (by decide) ?_
        obtain ⟨σ167, hσ167, hf⟩ := x_bind hf
        refine x_putX C dX9_runFrom_167 170 rfl hσ167 cl9 rfl w318 rfl rfl rfl ?_
        refine x_aload_n C dX9_runFrom_170 171 rfl 0 rfl rfl ?_
        obtain ⟨v171, hv171, hf⟩ := x_bind hf
        refine x_getR C dX9_runFrom_171 174 rfl hv171 cl9 rfl w313 ?_
        refine x_aload_n C dX9_runFrom_174 175 rfl 0 rfl rfl ?_
        obtain ⟨v175, hv175, hf⟩ := x_bind hf
        refine x_getI C dX9_runFrom_175 178 rfl hv175 cl9 rfl w316 ?_
        obtain ⟨v178, hv178, hf⟩ := x_bind hf
        refine x_laload C dX9_runFrom_178 179 rfl hv178 ?_
        exact x_lret C (hE _ (Option.some.inj hf).symm) dX9_runFrom_179
    · have hf := (if_pos hc).symm.trans hf
      refine x_aload_n C dX9_runFrom_146 147 rfl 0 rfl rfl ?_
      refine x_iconst C dX9_runFrom_147 148 rfl 0 (by decide) ?_
      obtain ⟨σ148, hσ148, hf⟩ := x_bind hf
      refine x_putX C dX9_runFrom_148 151 rfl hσ148 cl9 rfl w318 rfl rfl rfl ?_
      refine x_goto C dX9_runFrom_151 170 (by decide) ?_
      refine x_aload_n C dX9_runFrom_170 171 rfl 0 rfl rfl ?_
      obtain ⟨v171, hv171, hf⟩ := x_bind hf
      refine x_getR C dX9_runFrom_171 174 rfl hv171 cl9 rfl w313 ?_
      refine x_aload_n C dX9_runFrom_174 175 rfl 0 rfl rfl ?_
      obtain ⟨v175, hv175, hf⟩ := x_bind hf
      refine x_getI C dX9_runFrom_175 178 rfl hv175 cl9 rfl w316 ?_
      obtain ⟨v178, hv178, hf⟩ := x_bind hf
      refine x_laload C dX9_runFrom_178 179 rfl hv178 ?_
      exact x_lret C (hE _ (Option.some.inj hf).symm) dX9_runFrom_179
theorem dX11_tidy_0 : decode cX11_tidy 0 = .ok (.aload_n 0, 1) := by decide +kernel
theorem dX11_tidy_1 : decode cX11_tidy 1 = .ok (.getfield 23, 3) := by decide +kernel
theorem dX11_tidy_4 : decode cX11_tidy 4 = .ok (.getfield 52, 3) := by decide +kernel
theorem dX11_tidy_7 : decode cX11_tidy 7 = .ok (.invokevirtual 163, 3) := by decide +kernel
theorem dX11_tidy_10 : decode cX11_tidy 10 = .ok (.aload_n 0, 1) := by decide +kernel
theorem dX11_tidy_11 : decode cX11_tidy 11 = .ok (.getfield 23, 3) := by decide +kernel
theorem dX11_tidy_14 : decode cX11_tidy 14 = .ok (.getfield 52, 3) := by decide +kernel
theorem dX11_tidy_17 : decode cX11_tidy 17 = .ok (.getfield 148, 3) := by decide +kernel
theorem dX11_tidy_20 : decode cX11_tidy 20 = .ok (.if_icmp .ge 5, 3) := by decide +kernel
theorem dX11_tidy_23 : decode cX11_tidy 23 = .ok (.iconst (-1), 1) := by decide +kernel
theorem dX11_tidy_24 : decode cX11_tidy 24 = .ok (.ireturn, 1) := by decide +kernel
theorem dX11_tidy_25 : decode cX11_tidy 25 = .ok (.aload_n 0, 1) := by decide +kernel
theorem dX11_tidy_26 : decode cX11_tidy 26 = .ok (.getfield 37, 3) := by decide +kernel
theorem dX11_tidy_29 : decode cX11_tidy 29 = .ok (.aload_n 0, 1) := by decide +kernel
theorem dX11_tidy_30 : decode cX11_tidy 30 = .ok (.getfield 23, 3) := by decide +kernel
theorem dX11_tidy_33 : decode cX11_tidy 33 = .ok (.invokevirtual 218, 3) := by decide +kernel
theorem dX11_tidy_36 : decode cX11_tidy 36 = .ok (.aload_n 0, 1) := by decide +kernel
theorem dX11_tidy_37 : decode cX11_tidy 37 = .ok (.getfield 23, 3) := by decide +kernel
theorem dX11_tidy_40 : decode cX11_tidy 40 = .ok (.getfield 52, 3) := by decide +kernel
theorem dX11_tidy_43 : decode cX11_tidy 43 = .ok (.invokevirtual 338, 3) := by decide +kernel
theorem dX11_tidy_46 : decode cX11_tidy 46 = .ok (.istore_n 1, 1) := by decide +kernel
theorem dX11_tidy_47 : decode cX11_tidy 47 = .ok (.iconst 0, 1) := by decide +kernel
theorem dX11_tidy_48 : decode cX11_tidy 48 = .ok (.istore_n 2, 1) := by decide +kernel
theorem dX11_tidy_49 : decode cX11_tidy 49 = .ok (.iload_n 2, 1) := by decide +kernel
theorem dX11_tidy_50 : decode cX11_tidy 50 = .ok (.aload_n 0, 1) := by decide +kernel
theorem dX11_tidy_51 : decode cX11_tidy 51 = .ok (.getfield 23, 3) := by decide +kernel
theorem dX11_tidy_54 : decode cX11_tidy 54 = .ok (.getfield 52, 3) := by decide +kernel
theorem dX11_tidy_57 : decode cX11_tidy 57 = .ok (.getfield 148, 3) := by decide +kernel
theorem dX11_tidy_60 : decode cX11_tidy 60 = .ok (.if_icmp .ge 40, 3) := by decide +kernel
theorem dX11_tidy_63 : decode cX11_tidy 63 = .ok (.aload_n 0, 1) := by decide +kernel
theorem dX11_tidy_64 : decode cX11_tidy 64 = .ok (.getfield 23, 3) := by decide +kernel
theorem dX11_tidy_67 : decode cX11_tidy 67 = .ok (.getfield 52, 3) := by decide +kernel
theorem dX11_tidy_70 : decode cX11_tidy 70 = .ok (.iload_n 2, 1) := by decide +kernel
theorem dX11_tidy_71 : decode cX11_tidy 71 = .ok (.aload_n 0, 1) := by decide +kernel
theorem dX11_tidy_72 : decode cX11_tidy 72 = .ok (.getfield 59, 3) := by decide +kernel
theorem dX11_tidy_75 : decode cX11_tidy 75 = .ok (.aload_n 0, 1) := by decide +kernel
theorem dX11_tidy_76 : decode cX11_tidy 76 = .ok (.getfield 23, 3) := by decide +kernel
theorem dX11_tidy_79 : decode cX11_tidy 79 = .ok (.getfield 52, 3) := by decide +kernel
theorem dX11_tidy_82 : decode cX11_tidy 82 = .ok (.getfield 179, 3) := by decide +kernel
theorem dX11_tidy_85 : decode cX11_tidy 85 = .ok (.iload_n 2, 1) := by decide +kernel
theorem dX11_tidy_86 : decode cX11_tidy 86 = .ok (.laload, 1) := by decide +kernel
theorem dX11_tidy_87 : decode cX11_tidy 87 = .ok (.iconst 0, 1) := by decide +kernel
theorem dX11_tidy_88 : decode cX11_tidy 88 = .ok (.invokevirtual 286, 3) := by decide +kernel
theorem dX11_tidy_91 : decode cX11_tidy 91 = .ok (.invokevirtual 341, 3) := by decide +kernel
theorem dX11_tidy_94 : decode cX11_tidy 94 = .ok (.iinc 2 1, 3) := by decide +kernel
theorem dX11_tidy_97 : decode cX11_tidy 97 = .ok (.goto (-48), 3) := by decide +kernel
theorem dX11_tidy_100 : decode cX11_tidy 100 = .ok (.aload_n 0, 1) := by decide +kernel
theorem dX11_tidy_101 : decode cX11_tidy 101 = .ok (.getfield 23, 3) := by decide +kernel
theorem dX11_tidy_104 : decode cX11_tidy 104 = .ok (.invokevirtual 344, 3) := by decide +kernel
theorem dX11_tidy_107 : decode cX11_tidy 107 = .ok (.iload_n 1, 1) := by decide +kernel
theorem dX11_tidy_108 : decode cX11_tidy 108 = .ok (.ireturn, 1) := by decide +kernel
abbrev rmX11_tidy : Room := { frames := 4, cells := 0, slots := 0, locals := 141 }
noncomputable def fLX11_tidy_49 (x0 : Nat) (x1 : Int32) (a : Int32 × St) : Option ((Int32 × St) ⊕ (St)) :=
(gR a.2 x0 10 3).bind fun v51 =>
(gR a.2 v51 2 0).bind fun v54 =>
(gI a.2 v54 8 1).bind fun v57 =>
if v57 ≤ a.1 then
(some (Sum.inr a.2))
else
((gR a.2 x0 10 3).bind fun v64 =>
(gR a.2 v64 2 0).bind fun v67 =>
(gR a.2 x0 10 8).bind fun v72 =>
(gR a.2 x0 10 3).bind fun v76 =>
(gR a.2 v76 2 0).bind fun v79 =>
(gR a.2 v79 8 3).bind fun v82 =>
(aL a.2 v82 a.1).bind fun v86 =>
(isO a.2 v72 9).bind fun _ =>
(fX9_runFrom a.2 v72 v86 0).bind fun w88 =>
(isO w88.2 v67 8).bind fun _ =>
(fX8_setRight w88.2 v67 a.1 w88.1).bind fun w91 =>
xlet (a.1 + 1) fun v94 =>
some (Sum.inl (v94, w91)))
set_option maxHeartbeats 4000000 in
set_option maxRecDepth 100000 in
theorem lpX11_tidy_49 {X : xX} {x0 : Nat} {x1 : Int32}  {a0 : Int32 × St} {b : St} (C : Ok X cX11_tidy 3 RX11 rmX11_tidy (some .int)) (hb : iterP (fLX11_tidy_49 x0 x1) a0 = some b) (hy0 : ∀ s, b = s → V X (0, 0) s 100 [(0, .ref (x0)), (1, .int (x1))] []) : V X (0, 0) a0.2 49 [(0, .ref (x0)), (1, .int (x1)), (2, .int (a0.1))] [] := by
  obtain ⟨n, hn⟩ := iterP_some hb
  refine x_loop (P := fun a => V X (0, 0) a.2 49 [(0, .ref (x0)), (1, .int (x1)), (2, .int (a.1))] []) ?_ n a0 hn
  intro a c hf hK hxx
  have hx0 : ∀ s, c = Sum.inr s → V X (0, 0) s 100 [(0, .ref (x0)), (1, .int (x1))] [] := fun s e => hy0 s (hxx _ e).symm
  unfold fLX11_tidy_49 at hf
  refine x_iload_n C dX11_tidy_49 50 rfl 2 rfl rfl ?_
  refine x_aload_n C dX11_tidy_50 51 rfl 0 rfl rfl ?_
  obtain ⟨v51, hv51, hf⟩ := x_bind hf
  refine x_getR C dX11_tidy_51 54 rfl hv51 cl10 rfl w518 ?_
  obtain ⟨v54, hv54, hf⟩ := x_bind hf
  refine x_getR C dX11_tidy_54 57 rfl hv54 cl2 rfl w235 ?_
  obtain ⟨v57, hv57, hf⟩ := x_bind hf
  refine x_getI C dX11_tidy_57 60 rfl hv57 cl8 rfl w187 ?_
  refine x_icmp_ge C dX11_tidy_60 100 (by decide) 63 rfl (fun hc => ?_) (fun hc => ?_)
  · have hf := (if_pos hc).symm.trans hf
    refine x_lv [0, 1] (lv' := [(0, .ref (x0)), (1, .int (x1))]) rfl ?_
    exact hx0 _ (Option.some.inj hf).symm
  · have hf := (if_neg hc).symm.trans hf
    refine x_aload_n C dX11_tidy_63 64 rfl 0 rfl rfl ?_
    obtain ⟨v64, hv64, hf⟩ := x_bind hf
    refine x_getR C dX11_tidy_64 67 rfl hv64 cl10 rfl w518 ?_
    obtain ⟨v67, hv67, hf⟩ := x_bind hf
    refine x_getR C dX11_tidy_67 70 rfl hv67 cl2 rfl w235 ?_
    refine x_iload_n C dX11_tidy_70 71 rfl 2 rfl rfl ?_
    refine x_aload_n C dX11_tidy_71 72 rfl 0 rfl rfl ?_
    obtain ⟨v72, hv72, hf⟩ := x_bind hf
    refine x_getR C dX11_tidy_72 75 rfl hv72 cl10 rfl w523 ?_
    refine x_aload_n C dX11_tidy_75 76 rfl 0 rfl rfl ?_
    obtain ⟨v76, hv76, hf⟩ := x_bind hf
    refine x_getR C dX11_tidy_76 79 rfl hv76 cl10 rfl w518 ?_
    obtain ⟨v79, hv79, hf⟩ := x_bind hf
    refine x_getR C dX11_tidy_79 82 rfl hv79 cl2 rfl w235 ?_
    obtain ⟨v82, hv82, hf⟩ := x_bind hf
    refine x_getR C dX11_tidy_82 85 rfl hv82 cl8 rfl w201 ?_
    refine x_iload_n C dX11_tidy_85 86 rfl 2 rfl rfl ?_
    obtain ⟨v86, hv86, hf⟩ := x_bind hf
    refine x_laload C dX11_tidy_86 87 rfl hv86 ?_
    refine x_iconst C dX11_tidy_87 88 rfl 0 (by decide) ?_
    obtain ⟨o88, ho88, hf⟩ := x_bind hf
    obtain ⟨w88, hw88, hf⟩ := x_bind hf
    refine x_callVl C dX11_tidy_88 91 rfl ho88 cl9.1 rfl (cX9_runFromc hw88) kX9_runFrom kvX9_runFrom w655 ⟨rfl, rfl⟩ ⟨Nat.le_of_ble_eq_true rfl, Nat.le_of_ble_eq_true rfl⟩ ⟨Nat.zero_le _, Nat.zero_le _⟩ rfl rfl (Nat.le_of_ble_eq_true rfl) ?_
    obtain ⟨o91, ho91, hf⟩ := x_bind hf
    obtain ⟨w91, hw91, hf⟩ := x_bind hf
    refine x_callVv C dX11_tidy_91 94 rfl ho91 cl8.1 rfl (cX8_setRightc hw91) kX8_setRight kvX8_setRight w688 ⟨rfl, rfl⟩ ⟨Nat.le_of_ble_eq_true rfl, Nat.le_of_ble_eq_true rfl⟩ ⟨Nat.zero_le _, Nat.zero_le _⟩ rfl rfl (Nat.le_of_ble_eq_true rfl) ?_
    obtain ⟨v94, ev94, hf⟩ := xlet_some hf
    refine x_iinc C dX11_tidy_94 97 rfl 2 rfl v94 ev94 rfl [(2, .int (v94)), (0, .ref (x0)), (1, .int (x1))] rfl ?_
    refine x_goto C dX11_tidy_97 49 (by decide) ?_
    refine x_lv [1, 2, 0] (lv' := [(0, .ref (x0)), (1, .int (x1)), (2, .int (v94))]) rfl ?_
    exact hK _ (Option.some.inj hf).symm
noncomputable def fX11_tidy (σ : St) (x0 : Nat) : Option ((Int32 × St)) :=
(gR σ x0 10 3).bind fun v1 =>
(gR σ v1 2 0).bind fun v4 =>
(isO σ v4 8).bind fun _ =>
(fX8_falling σ v4).bind fun w7 =>
(gR σ x0 10 3).bind fun v11 =>
(gR σ v11 2 0).bind fun v14 =>
(gI σ v14 8 1).bind fun v17 =>
if v17 ≤ w7 then
((gR σ x0 10 6).bind fun v26 =>
(gR σ x0 10 3).bind fun v30 =>
(isO σ v26 0).bind fun _ =>
(fX0_keep σ v26 v30).bind fun w33 =>
(gR w33 x0 10 3).bind fun v37 =>
(gR w33 v37 2 0).bind fun v40 =>
(isO w33 v40 8).bind fun _ =>
(fX8_dropCovered w33 v40).bind fun w43 =>
(iterP (fLX11_tidy_49 x0 w43.1) (0, w43.2)).bind fun b49 =>
(gR b49 x0 10 3).bind fun v101 =>
(isO b49 v101 2).bind fun _ =>
(fX2_beginAll b49 v101).bind fun w104 =>
some (w43.1, w104))
else
(some ((-1), σ))
set_option maxHeartbeats 4000000 in
set_option maxRecDepth 100000 in
theorem cX11_tidyc {l : Launch} {G : xG} {A : Nat → Prop} {σ : St} {x0 : Nat} {c : (Int32 × St)} (hf : fX11_tidy σ x0 = some c) : Con l yX11_tidy (xws yX11_tidy cX11_tidy 3 (some .int)) rmX11_tidy [.ref (x0)] G A σ (some (.int c.1)) c.2 := by
  refine x_start rfl (Nat.le_of_ble_eq_true rfl) (fun X _ _ _ C hE0 => ?_)
  have hE : ∀ r, c = r → xE1 X (some (.int r.1)) r.2 := fun r e => e ▸ hE0
  show V X (0, 0) σ 0 [(0, .ref (x0))] []
  unfold fX11_tidy at hf
  refine x_aload_n C dX11_tidy_0 1 rfl 0 rfl rfl ?_
  obtain ⟨v1, hv1, hf⟩ := x_bind hf
  refine x_getR C dX11_tidy_1 4 rfl hv1 cl10 rfl w518 ?_
  obtain ⟨v4, hv4, hf⟩ := x_bind hf
  refine x_getR C dX11_tidy_4 7 rfl hv4 cl2 rfl w235 ?_
  obtain ⟨o7, ho7, hf⟩ := x_bind hf
  obtain ⟨w7, hw7, hf⟩ := x_bind hf
  refine x_callVi C dX11_tidy_7 10 rfl ho7 cl8.1 rfl (cX8_fallingc hw7) kX8_falling kvX8_falling w592 ⟨rfl, rfl⟩ ⟨Nat.le_of_ble_eq_true rfl, Nat.le_of_ble_eq_true rfl⟩ ⟨Nat.zero_le _, Nat.zero_le _⟩ rfl rfl (Nat.le_of_ble_eq_true rfl) ?_
  refine x_aload_n C dX11_tidy_10 11 rfl 0 rfl rfl ?_
  obtain ⟨v11, hv11, hf⟩ := x_bind hf
  refine x_getR C dX11_tidy_11 14 rfl hv11 cl10 rfl w518 ?_
  obtain ⟨v14, hv14, hf⟩ := x_bind hf
  refine x_getR C dX11_tidy_14 17 rfl hv14 cl2 rfl w235 ?_
  obtain ⟨v17, hv17, hf⟩ := x_bind hf
  refine x_getI C dX11_tidy_17 20 rfl hv17 cl8 rfl w187 ?_
  refine x_icmp_ge C dX11_tidy_20 25 (by decide) 23 rfl (fun hc => ?_) (fun hc => ?_)
  · have hf := (if_pos hc).symm.trans hf
    refine x_aload_n C dX11_tidy_25 26 rfl 0 rfl rfl ?_
    obtain ⟨v26, hv26, hf⟩ := x_bind hf
    refine x_getR C dX11_tidy_26 29 rfl hv26 cl10 rfl w521 ?_
    refine x_aload_n C dX11_tidy_29 30 rfl 0 rfl rfl ?_
    obtain ⟨v30, hv30, hf⟩ := x_bind hf
    refine x_getR C dX11_tidy_30 33 rfl hv30 cl10 rfl w518 ?_
    obtain ⟨o33, ho33, hf⟩ := x_bind hf
    obtain ⟨w33, hw33, hf⟩ := x_bind hf
    refine x_callVv C dX11_tidy_33 36 rfl ho33 cl0.1 rfl (cX0_keepc hw33) kX0_keep kvX0_keep w618 ⟨rfl, rfl⟩ ⟨Nat.le_of_ble_eq_true rfl, Nat.le_of_ble_eq_true rfl⟩ ⟨Nat.zero_le _, Nat.zero_le _⟩ rfl rfl (Nat.le_of_ble_eq_true rfl) ?_
    refine x_aload_n C dX11_tidy_36 37 rfl 0 rfl rfl ?_
    obtain ⟨v37, hv37, hf⟩ := x_bind hf
    refine x_getR C dX11_tidy_37 40 rfl hv37 cl10 rfl w518 ?_
    obtain ⟨v40, hv40, hf⟩ := x_bind hf
    refine x_getR C dX11_tidy_40 43 rfl hv40 cl2 rfl w235 ?_
    obtain ⟨o43, ho43, hf⟩ := x_bind hf
    obtain ⟨w43, hw43, hf⟩ := x_bind hf
    refine x_callVi C dX11_tidy_43 46 rfl ho43 cl8.1 rfl (cX8_dropCoveredc hw43) kX8_dropCovered kvX8_dropCovered w635 ⟨rfl, rfl⟩ ⟨Nat.le_of_ble_eq_true rfl, Nat.le_of_ble_eq_true rfl⟩ ⟨Nat.zero_le _, Nat.zero_le _⟩ rfl rfl (Nat.le_of_ble_eq_true rfl) ?_
    refine x_istore_n C dX11_tidy_46 47 rfl rfl rfl [(1, .int (w43.1)), (0, .ref (x0))] rfl ?_
    refine x_iconst C dX11_tidy_47 48 rfl 0 (by decide) ?_
    refine x_istore_n C dX11_tidy_48 49 rfl rfl rfl [(2, .int (0)), (1, .int (w43.1)), (0, .ref (x0))] rfl ?_
    obtain ⟨b49, hb49, hf⟩ := x_bind hf
    refine x_lv [2, 1, 0] (lv' := [(0, .ref (x0)), (1, .int (w43.1)), (2, .int (0))]) rfl ?_
    refine lpX11_tidy_49 C hb49 (fun s49 e49 => ?_)
    subst e49
    refine x_aload_n C dX11_tidy_100 101 rfl 0 rfl rfl ?_
    obtain ⟨v101, hv101, hf⟩ := x_bind hf
    refine x_getR C dX11_tidy_101 104 rfl hv101 cl10 rfl w518 ?_
    obtain ⟨o104, ho104, hf⟩ := x_bind hf
    obtain ⟨w104, hw104, hf⟩ := x_bind hf
    refine x_callVv C dX11_tidy_104 107 rfl ho104 cl2.1 rfl (cX2_beginAllc hw104) kX2_beginAll kvX2_beginAll w692 ⟨rfl, rfl⟩ ⟨Nat.le_of_ble_eq_true rfl, Nat.le_of_ble_eq_true rfl⟩ ⟨Nat.zero_le _, Nat.zero_le _⟩ rfl rfl (Nat.le_of_ble_eq_true rfl) ?_
    refine x_iload_n C dX11_tidy_107 108 rfl 1 rfl rfl ?_
    exact x_iret C (hE _ (Option.some.inj hf).symm) dX11_tidy_108
  · have hf := (if_neg hc).symm.trans hf
    refine x_iconst C dX11_tidy_23 24 rfl (-1) (by decide) ?_
    exact x_iret C (hE _ (Option.some.inj hf).symm) dX11_tidy_24
theorem dX11_undo_0 : decode cX11_undo 0 = .ok (.aload_n 0, 1) := by decide +kernel
theorem dX11_undo_1 : decode cX11_undo 1 = .ok (.getfield 37, 3) := by decide +kernel
theorem dX11_undo_4 : decode cX11_undo 4 = .ok (.getfield 154, 3) := by decide +kernel
theorem dX11_undo_7 : decode cX11_undo 7 = .ok (.ifCond .ne 5, 3) := by decide +kernel
theorem dX11_undo_10 : decode cX11_undo 10 = .ok (.iconst (-1), 1) := by decide +kernel
theorem dX11_undo_11 : decode cX11_undo 11 = .ok (.ireturn, 1) := by decide +kernel
theorem dX11_undo_12 : decode cX11_undo 12 = .ok (.aload_n 0, 1) := by decide +kernel
theorem dX11_undo_13 : decode cX11_undo 13 = .ok (.getfield 37, 3) := by decide +kernel
theorem dX11_undo_16 : decode cX11_undo 16 = .ok (.aload_n 0, 1) := by decide +kernel
theorem dX11_undo_17 : decode cX11_undo 17 = .ok (.getfield 23, 3) := by decide +kernel
theorem dX11_undo_20 : decode cX11_undo 20 = .ok (.invokevirtual 399, 3) := by decide +kernel
theorem dX11_undo_23 : decode cX11_undo 23 = .ok (.aload_n 0, 1) := by decide +kernel
theorem dX11_undo_24 : decode cX11_undo 24 = .ok (.getfield 37, 3) := by decide +kernel
theorem dX11_undo_27 : decode cX11_undo 27 = .ok (.getfield 154, 3) := by decide +kernel
theorem dX11_undo_30 : decode cX11_undo 30 = .ok (.ireturn, 1) := by decide +kernel
abbrev rmX11_undo : Room := { frames := 4, cells := 0, slots := 0, locals := 123 }
noncomputable def fX11_undo (σ : St) (x0 : Nat) : Option ((Int32 × St)) :=
(gR σ x0 10 6).bind fun v1 =>
(gI σ v1 0 2).bind fun v4 =>
if v4 = 0 then
(some ((-1), σ))
else
((gR σ x0 10 6).bind fun v13 =>
(gR σ x0 10 3).bind fun v17 =>
(isO σ v13 0).bind fun _ =>
(fX0_giveBack σ v13 v17).bind fun w20 =>
(gR w20 x0 10 6).bind fun v24 =>
(gI w20 v24 0 2).bind fun v27 =>
some (v27, w20))
set_option maxHeartbeats 4000000 in
set_option maxRecDepth 100000 in
theorem cX11_undoc {l : Launch} {G : xG} {A : Nat → Prop} {σ : St} {x0 : Nat} {c : (Int32 × St)} (hf : fX11_undo σ x0 = some c) : Con l yX11_undo (xws yX11_undo cX11_undo 1 (some .int)) rmX11_undo [.ref (x0)] G A σ (some (.int c.1)) c.2 := by
  refine x_start rfl (Nat.le_of_ble_eq_true rfl) (fun X _ _ _ C hE0 => ?_)
  have hE : ∀ r, c = r → xE1 X (some (.int r.1)) r.2 := fun r e => e ▸ hE0
  show V X (0, 0) σ 0 [(0, .ref (x0))] []
  unfold fX11_undo at hf
  refine x_aload_n C dX11_undo_0 1 rfl 0 rfl rfl ?_
  obtain ⟨v1, hv1, hf⟩ := x_bind hf
  refine x_getR C dX11_undo_1 4 rfl hv1 cl10 rfl w521 ?_
  obtain ⟨v4, hv4, hf⟩ := x_bind hf
  refine x_getI C dX11_undo_4 7 rfl hv4 cl0 rfl w269 ?_
  refine x_if_ne C dX11_undo_7 12 (by decide) 10 rfl (fun hc => ?_) (fun hc => ?_)
  · have hf := (if_neg hc).symm.trans hf
    refine x_aload_n C dX11_undo_12 13 rfl 0 rfl rfl ?_
    obtain ⟨v13, hv13, hf⟩ := x_bind hf
    refine x_getR C dX11_undo_13 16 rfl hv13 cl10 rfl w521 ?_
    refine x_aload_n C dX11_undo_16 17 rfl 0 rfl rfl ?_
    obtain ⟨v17, hv17, hf⟩ := x_bind hf
    refine x_getR C dX11_undo_17 20 rfl hv17 cl10 rfl w518 ?_
    obtain ⟨o20, ho20, hf⟩ := x_bind hf
    obtain ⟨w20, hw20, hf⟩ := x_bind hf
    refine x_callVv C dX11_undo_20 23 rfl ho20 cl0.1 rfl (cX0_giveBackc hw20) kX0_giveBack kvX0_giveBack w738 ⟨rfl, rfl⟩ ⟨Nat.le_of_ble_eq_true rfl, Nat.le_of_ble_eq_true rfl⟩ ⟨Nat.zero_le _, Nat.zero_le _⟩ rfl rfl (Nat.le_of_ble_eq_true rfl) ?_
    refine x_aload_n C dX11_undo_23 24 rfl 0 rfl rfl ?_
    obtain ⟨v24, hv24, hf⟩ := x_bind hf
    refine x_getR C dX11_undo_24 27 rfl hv24 cl10 rfl w521 ?_
    obtain ⟨v27, hv27, hf⟩ := x_bind hf
    refine x_getI C dX11_undo_27 30 rfl hv27 cl0 rfl w269 ?_
    exact x_iret C (hE _ (Option.some.inj hf).symm) dX11_undo_30
  · have hf := (if_pos hc).symm.trans hf
    refine x_iconst C dX11_undo_10 11 rfl (-1) (by decide) ?_
    exact x_iret C (hE _ (Option.some.inj hf).symm) dX11_undo_11
theorem dX11_wordOnTape_0 : decode cX11_wordOnTape 0 = .ok (.iload_n 1, 1) := by decide +kernel
theorem dX11_wordOnTape_1 : decode cX11_wordOnTape 1 = .ok (.bipush 16, 2) := by decide +kernel
theorem dX11_wordOnTape_3 : decode cX11_wordOnTape 3 = .ok (.if_icmp .le 7, 3) := by decide +kernel
theorem dX11_wordOnTape_6 : decode cX11_wordOnTape 6 = .ok (.ldc2_w 216, 3) := by decide +kernel
theorem dX11_wordOnTape_9 : decode cX11_wordOnTape 9 = .ok (.lreturn, 1) := by decide +kernel
theorem dX11_wordOnTape_10 : decode cX11_wordOnTape 10 = .ok (.lconst 0, 1) := by decide +kernel
theorem dX11_wordOnTape_11 : decode cX11_wordOnTape 11 = .ok (.lstore_n 2, 1) := by decide +kernel
theorem dX11_wordOnTape_12 : decode cX11_wordOnTape 12 = .ok (.iconst 0, 1) := by decide +kernel
theorem dX11_wordOnTape_13 : decode cX11_wordOnTape 13 = .ok (.istore 4, 2) := by decide +kernel
theorem dX11_wordOnTape_15 : decode cX11_wordOnTape 15 = .ok (.iload 4, 2) := by decide +kernel
theorem dX11_wordOnTape_17 : decode cX11_wordOnTape 17 = .ok (.iload_n 1, 1) := by decide +kernel
theorem dX11_wordOnTape_18 : decode cX11_wordOnTape 18 = .ok (.if_icmp .ge 52, 3) := by decide +kernel
theorem dX11_wordOnTape_21 : decode cX11_wordOnTape 21 = .ok (.aload_n 0, 1) := by decide +kernel
theorem dX11_wordOnTape_22 : decode cX11_wordOnTape 22 = .ok (.getfield 9, 3) := by decide +kernel
theorem dX11_wordOnTape_25 : decode cX11_wordOnTape 25 = .ok (.iload 4, 2) := by decide +kernel
theorem dX11_wordOnTape_27 : decode cX11_wordOnTape 27 = .ok (.iaload, 1) := by decide +kernel
theorem dX11_wordOnTape_28 : decode cX11_wordOnTape 28 = .ok (.bipush 97, 2) := by decide +kernel
theorem dX11_wordOnTape_30 : decode cX11_wordOnTape 30 = .ok (.isub, 1) := by decide +kernel
theorem dX11_wordOnTape_31 : decode cX11_wordOnTape 31 = .ok (.istore 5, 2) := by decide +kernel
theorem dX11_wordOnTape_33 : decode cX11_wordOnTape 33 = .ok (.iload 5, 2) := by decide +kernel
theorem dX11_wordOnTape_35 : decode cX11_wordOnTape 35 = .ok (.ifCond .lt 18, 3) := by decide +kernel
theorem dX11_wordOnTape_38 : decode cX11_wordOnTape 38 = .ok (.iload 5, 2) := by decide +kernel
theorem dX11_wordOnTape_40 : decode cX11_wordOnTape 40 = .ok (.aload_n 0, 1) := by decide +kernel
theorem dX11_wordOnTape_41 : decode cX11_wordOnTape 41 = .ok (.getfield 23, 3) := by decide +kernel
theorem dX11_wordOnTape_44 : decode cX11_wordOnTape 44 = .ok (.getfield 52, 3) := by decide +kernel
theorem dX11_wordOnTape_47 : decode cX11_wordOnTape 47 = .ok (.getfield 151, 3) := by decide +kernel
theorem dX11_wordOnTape_50 : decode cX11_wordOnTape 50 = .ok (.if_icmp .lt 7, 3) := by decide +kernel
theorem dX11_wordOnTape_53 : decode cX11_wordOnTape 53 = .ok (.ldc2_w 216, 3) := by decide +kernel
theorem dX11_wordOnTape_56 : decode cX11_wordOnTape 56 = .ok (.lreturn, 1) := by decide +kernel
theorem dX11_wordOnTape_57 : decode cX11_wordOnTape 57 = .ok (.lload_n 2, 1) := by decide +kernel
theorem dX11_wordOnTape_58 : decode cX11_wordOnTape 58 = .ok (.iload 5, 2) := by decide +kernel
theorem dX11_wordOnTape_60 : decode cX11_wordOnTape 60 = .ok (.invokestatic 225, 3) := by decide +kernel
theorem dX11_wordOnTape_63 : decode cX11_wordOnTape 63 = .ok (.lstore_n 2, 1) := by decide +kernel
theorem dX11_wordOnTape_64 : decode cX11_wordOnTape 64 = .ok (.iinc 4 1, 3) := by decide +kernel
theorem dX11_wordOnTape_67 : decode cX11_wordOnTape 67 = .ok (.goto (-52), 3) := by decide +kernel
theorem dX11_wordOnTape_70 : decode cX11_wordOnTape 70 = .ok (.lload_n 2, 1) := by decide +kernel
theorem dX11_wordOnTape_71 : decode cX11_wordOnTape 71 = .ok (.lreturn, 1) := by decide +kernel
abbrev rmX11_wordOnTape : Room := { frames := 1, cells := 0, slots := 0, locals := 23 }
noncomputable def fLX11_wordOnTape_15 (σ : St) (x0 : Nat) (x1 : Int32) (a : Int64 × Int32) : Option ((Int64 × Int32) ⊕ ((Unit) ⊕ (Int64))) :=
if x1 ≤ a.2 then
(some (Sum.inr (Sum.inr a.1)))
else
((gR σ x0 10 0).bind fun v22 =>
(aI σ v22 0 a.2).bind fun v27 =>
xlet (v27 - 97) fun v31 =>
if v31 < 0 then
(some (Sum.inr (Sum.inl ())))
else
((gR σ x0 10 3).bind fun v41 =>
(gR σ v41 2 0).bind fun v44 =>
(gI σ v44 8 0).bind fun v47 =>
if v31 < v47 then
((fX10_longer a.1 v31).bind fun w60 =>
xlet (a.2 + 1) fun v64 =>
some (Sum.inl (w60, v64)))
else
(some (Sum.inr (Sum.inl ())))))
set_option maxHeartbeats 4000000 in
set_option maxRecDepth 100000 in
theorem lpX11_wordOnTape_15 {X : xX} {σ : St} {x0 : Nat} {x1 : Int32}  {a0 : Int64 × Int32} {b : (Unit) ⊕ (Int64)} (C : Ok X cX11_wordOnTape 6 RX11 rmX11_wordOnTape (some .long)) (hb : iterP (fLX11_wordOnTape_15 σ x0 x1) a0 = some b) (hy0 : ∀ s, b = (Sum.inl s) → V X (0, 0) σ 53 [] []) (hy1 : ∀ s, b = (Sum.inr s) → V X (0, 0) σ 70 [(2, .long (s))] []) : V X (0, 0) σ 15 [(0, .ref (x0)), (1, .int (x1)), (2, .long (a0.1)), (4, .int (a0.2))] [] := by
  obtain ⟨n, hn⟩ := iterP_some hb
  refine x_loop (P := fun a => V X (0, 0) σ 15 [(0, .ref (x0)), (1, .int (x1)), (2, .long (a.1)), (4, .int (a.2))] []) ?_ n a0 hn
  intro a c hf hK hxx
  have hx0 : ∀ s, c = Sum.inr (Sum.inl s) → V X (0, 0) σ 53 [] [] := fun s e => hy0 s (hxx _ e).symm
  have hx1 : ∀ s, c = Sum.inr (Sum.inr s) → V X (0, 0) σ 70 [(2, .long (s))] [] := fun s e => hy1 s (hxx _ e).symm
  unfold fLX11_wordOnTape_15 at hf
  refine x_iload C dX11_wordOnTape_15 17 rfl 3 rfl ?_
  refine x_iload_n C dX11_wordOnTape_17 18 rfl 1 rfl rfl ?_
  refine x_icmp_ge C dX11_wordOnTape_18 70 (by decide) 21 rfl (fun hc => ?_) (fun hc => ?_)
  · have hf := (if_pos hc).symm.trans hf
    refine x_lv [2] (lv' := [(2, .long (a.1))]) rfl ?_
    exact hx1 _ (Option.some.inj hf).symm
  · have hf := (if_neg hc).symm.trans hf
    refine x_aload_n C dX11_wordOnTape_21 22 rfl 0 rfl rfl ?_
    obtain ⟨v22, hv22, hf⟩ := x_bind hf
    refine x_getR C dX11_wordOnTape_22 25 rfl hv22 cl10 rfl w515 ?_
    refine x_iload C dX11_wordOnTape_25 27 rfl 3 rfl ?_
    obtain ⟨v27, hv27, hf⟩ := x_bind hf
    refine x_iaload C dX11_wordOnTape_27 28 rfl hv27 ?_
    refine x_bipush C dX11_wordOnTape_28 30 rfl 97 (by decide) ?_
    refine x_isub C dX11_wordOnTape_30 31 rfl ?_
    obtain ⟨v31, ev31, hf⟩ := xlet_some hf
    refine x_topi ev31 ?_
    refine x_istore C dX11_wordOnTape_31 33 rfl rfl [(5, .int (v31)), (0, .ref (x0)), (1, .int (x1)), (2, .long (a.1)), (4, .int (a.2))] rfl ?_
    refine x_iload C dX11_wordOnTape_33 35 rfl 0 rfl ?_
    refine x_if_lt C dX11_wordOnTape_35 53 (by decide) 38 rfl (fun hc => ?_) (fun hc => ?_)
    · have hf := (if_pos hc).symm.trans hf
      refine x_lv [] (lv' := []) rfl ?_
      exact hx0 _ (Option.some.inj hf).symm
    · have hf := (if_neg hc).symm.trans hf
      refine x_iload C dX11_wordOnTape_38 40 rfl 0 rfl ?_
      refine x_aload_n C dX11_wordOnTape_40 41 rfl 1 rfl rfl ?_
      obtain ⟨v41, hv41, hf⟩ := x_bind hf
      refine x_getR C dX11_wordOnTape_41 44 rfl hv41 cl10 rfl w518 ?_
      obtain ⟨v44, hv44, hf⟩ := x_bind hf
      refine x_getR C dX11_wordOnTape_44 47 rfl hv44 cl2 rfl w235 ?_
      obtain ⟨v47, hv47, hf⟩ := x_bind hf
      refine x_getI C dX11_wordOnTape_47 50 rfl hv47 cl8 rfl w180 ?_
      refine x_icmp_lt C dX11_wordOnTape_50 57 (by decide) 53 rfl (fun hc => ?_) (fun hc => ?_)
      · have hf := (if_pos hc).symm.trans hf
        refine x_lload_n C dX11_wordOnTape_57 58 rfl 3 rfl rfl ?_
        refine x_iload C dX11_wordOnTape_58 60 rfl 0 rfl ?_
        obtain ⟨w60, hw60, hf⟩ := x_bind hf
        refine x_callSl C dX11_wordOnTape_60 63 rfl (cX10_longerc hw60) kX10_longer ksX10_longer w1102 ⟨rfl, rfl⟩ ⟨Nat.le_of_ble_eq_true rfl, Nat.le_of_ble_eq_true rfl⟩ ⟨Nat.zero_le _, Nat.zero_le _⟩ rfl rfl (Nat.le_of_ble_eq_true rfl) ?_
        refine x_lstore_n C dX11_wordOnTape_63 64 rfl rfl rfl [(2, .long (w60)), (5, .int (v31)), (0, .ref (x0)), (1, .int (x1)), (4, .int (a.2))] rfl ?_
        obtain ⟨v64, ev64, hf⟩ := xlet_some hf
        refine x_iinc C dX11_wordOnTape_64 67 rfl 4 rfl v64 ev64 rfl [(4, .int (v64)), (2, .long (w60)), (5, .int (v31)), (0, .ref (x0)), (1, .int (x1))] rfl ?_
        refine x_goto C dX11_wordOnTape_67 15 (by decide) ?_
        refine x_lv [3, 4, 1, 0] (lv' := [(0, .ref (x0)), (1, .int (x1)), (2, .long (w60)), (4, .int (v64))]) rfl ?_
        exact hK _ (Option.some.inj hf).symm
      · have hf := (if_neg hc).symm.trans hf
        refine x_lv [] (lv' := []) rfl ?_
        exact hx0 _ (Option.some.inj hf).symm
noncomputable def fX11_wordOnTape (σ : St) (x0 : Nat) (x1 : Int32) : Option (Int64) :=
if x1 ≤ ((16 : Int32)) then
((iterP (fLX11_wordOnTape_15 σ x0 x1) (0, 0)).bind fun b15 =>
(match b15 with
| .inl s15 =>
some (-1)
| .inr s15 =>
some s15))
else
(some (-1))
set_option maxHeartbeats 4000000 in
set_option maxRecDepth 100000 in
theorem cX11_wordOnTapec {l : Launch} {G : xG} {A : Nat → Prop} {σ : St} {x0 : Nat} {x1 : Int32} {c : Int64} (hf : fX11_wordOnTape σ x0 x1 = some c) : Con l yX11_wordOnTape (xws yX11_wordOnTape cX11_wordOnTape 6 (some .long)) rmX11_wordOnTape [.ref (x0), .int (x1)] G A σ (some (.long c)) σ := by
  refine x_start rfl (Nat.le_of_ble_eq_true rfl) (fun X _ _ _ C hE0 => ?_)
  have hE : ∀ r, c = r → xE1 X (some (.long r)) σ := fun r e => e ▸ hE0
  show V X (0, 0) σ 0 [(0, .ref (x0)), (1, .int (x1))] []
  unfold fX11_wordOnTape at hf
  refine x_iload_n C dX11_wordOnTape_0 1 rfl 1 rfl rfl ?_
  refine x_bipush C dX11_wordOnTape_1 3 rfl 16 (by decide) ?_
  refine x_icmp_le C dX11_wordOnTape_3 10 (by decide) 6 rfl (fun hc => ?_) (fun hc => ?_)
  · have hf := (if_pos hc).symm.trans hf
    refine x_lconst C dX11_wordOnTape_10 11 rfl 0 (by decide) ?_
    refine x_lstore_n C dX11_wordOnTape_11 12 rfl rfl rfl [(2, .long (0)), (0, .ref (x0)), (1, .int (x1))] rfl ?_
    refine x_iconst C dX11_wordOnTape_12 13 rfl 0 (by decide) ?_
    refine x_istore C dX11_wordOnTape_13 15 rfl rfl [(4, .int (0)), (2, .long (0)), (0, .ref (x0)), (1, .int (x1))] rfl ?_
    obtain ⟨b15, hb15, hf⟩ := x_bind hf
    refine x_lv [2, 3, 1, 0] (lv' := [(0, .ref (x0)), (1, .int (x1)), (2, .long (0)), (4, .int (0))]) rfl ?_
    refine lpX11_wordOnTape_15 C hb15 (fun s15 e15 => ?_) (fun s15 e15 => ?_)
    · subst e15
      try dsimp only at hf
      refine x_ldc2 C dX11_wordOnTape_53 56 rfl w1101 ?_
      exact x_lret C (hE _ (Option.some.inj hf).symm) dX11_wordOnTape_56
    · subst e15
      try dsimp only at hf
      refine x_lload_n C dX11_wordOnTape_70 71 rfl 0 rfl rfl ?_
      exact x_lret C (hE _ (Option.some.inj hf).symm) dX11_wordOnTape_71
  · have hf := (if_neg hc).symm.trans hf
    refine x_ldc2 C dX11_wordOnTape_6 9 rfl w1101 ?_
    exact x_lret C (hE _ (Option.some.inj hf).symm) dX11_wordOnTape_9
theorem dX12_leftOf_0 : decode cX12_leftOf 0 = .ok (.aload_n 0, 1) := by decide +kernel
theorem dX12_leftOf_1 : decode cX12_leftOf 1 = .ok (.getfield 13, 3) := by decide +kernel
theorem dX12_leftOf_4 : decode cX12_leftOf 4 = .ok (.bipush 12, 2) := by decide +kernel
theorem dX12_leftOf_6 : decode cX12_leftOf 6 = .ok (.iload_n 1, 1) := by decide +kernel
theorem dX12_leftOf_7 : decode cX12_leftOf 7 = .ok (.iadd, 1) := by decide +kernel
theorem dX12_leftOf_8 : decode cX12_leftOf 8 = .ok (.laload, 1) := by decide +kernel
theorem dX12_leftOf_9 : decode cX12_leftOf 9 = .ok (.lreturn, 1) := by decide +kernel
abbrev rmX12_leftOf : Room := { frames := 0, cells := 0, slots := 0, locals := 0 }
noncomputable def fX12_leftOf (σ : St) (x0 : Nat) (x1 : Int32) : Option (Int64) :=
(gR σ x0 11 1).bind fun v1 =>
(aL σ v1 (12 + x1)).bind fun v8 =>
some v8
set_option maxHeartbeats 4000000 in
set_option maxRecDepth 100000 in
theorem cX12_leftOfc {l : Launch} {G : xG} {A : Nat → Prop} {σ : St} {x0 : Nat} {x1 : Int32} {c : Int64} (hf : fX12_leftOf σ x0 x1 = some c) : Con l yX12_leftOf (xws yX12_leftOf cX12_leftOf 2 (some .long)) rmX12_leftOf [.ref (x0), .int (x1)] G A σ (some (.long c)) σ := by
  refine x_start rfl (Nat.le_of_ble_eq_true rfl) (fun X _ _ _ C hE0 => ?_)
  have hE : ∀ r, c = r → xE1 X (some (.long r)) σ := fun r e => e ▸ hE0
  show V X (0, 0) σ 0 [(0, .ref (x0)), (1, .int (x1))] []
  unfold fX12_leftOf at hf
  refine x_aload_n C dX12_leftOf_0 1 rfl 0 rfl rfl ?_
  obtain ⟨v1, hv1, hf⟩ := x_bind hf
  refine x_getR C dX12_leftOf_1 4 rfl hv1 cl11 rfl w1444 ?_
  refine x_bipush C dX12_leftOf_4 6 rfl 12 (by decide) ?_
  refine x_iload_n C dX12_leftOf_6 7 rfl 1 rfl rfl ?_
  refine x_iadd C dX12_leftOf_7 8 rfl ?_
  obtain ⟨v8, hv8, hf⟩ := x_bind hf
  refine x_laload C dX12_leftOf_8 9 rfl hv8 ?_
  exact x_lret C (hE _ (Option.some.inj hf).symm) dX12_leftOf_9
theorem dX12_length_0 : decode cX12_length 0 = .ok (.iconst 0, 1) := by decide +kernel
theorem dX12_length_1 : decode cX12_length 1 = .ok (.istore_n 2, 1) := by decide +kernel
theorem dX12_length_2 : decode cX12_length 2 = .ok (.lload_n 0, 1) := by decide +kernel
theorem dX12_length_3 : decode cX12_length 3 = .ok (.lstore_n 3, 1) := by decide +kernel
theorem dX12_length_4 : decode cX12_length 4 = .ok (.lload_n 3, 1) := by decide +kernel
theorem dX12_length_5 : decode cX12_length 5 = .ok (.lconst 0, 1) := by decide +kernel
theorem dX12_length_6 : decode cX12_length 6 = .ok (.lcmp, 1) := by decide +kernel
theorem dX12_length_7 : decode cX12_length 7 = .ok (.ifCond .le 15, 3) := by decide +kernel
theorem dX12_length_10 : decode cX12_length 10 = .ok (.iinc 2 1, 3) := by decide +kernel
theorem dX12_length_13 : decode cX12_length 13 = .ok (.lload_n 3, 1) := by decide +kernel
theorem dX12_length_14 : decode cX12_length 14 = .ok (.ldc2_w 134, 3) := by decide +kernel
theorem dX12_length_17 : decode cX12_length 17 = .ok (.ldiv, 1) := by decide +kernel
theorem dX12_length_18 : decode cX12_length 18 = .ok (.lstore_n 3, 1) := by decide +kernel
theorem dX12_length_19 : decode cX12_length 19 = .ok (.goto (-15), 3) := by decide +kernel
theorem dX12_length_22 : decode cX12_length 22 = .ok (.iload_n 2, 1) := by decide +kernel
theorem dX12_length_23 : decode cX12_length 23 = .ok (.ireturn, 1) := by decide +kernel
abbrev rmX12_length : Room := { frames := 0, cells := 0, slots := 0, locals := 0 }
noncomputable def fLX12_length_4  (a : Int32 × Int64) : Option ((Int32 × Int64) ⊕ (Int32)) :=
if (lg_cmp a.2 0) ≤ 0 then
(some (Sum.inr a.1))
else
(xlet (a.1 + 1) fun v10 =>
xlet (a.2 / 6) fun v18 =>
some (Sum.inl (v10, v18)))
set_option maxHeartbeats 4000000 in
set_option maxRecDepth 100000 in
theorem lpX12_length_4 {X : xX} {σ : St}   {a0 : Int32 × Int64} {b : Int32} (C : Ok X cX12_length 5 RX12 rmX12_length (some .int)) (hb : iterP (fLX12_length_4 ) a0 = some b) (hy0 : ∀ s, b = s → V X (0, 0) σ 22 [(2, .int (s))] []) : V X (0, 0) σ 4 [(2, .int (a0.1)), (3, .long (a0.2))] [] := by
  obtain ⟨n, hn⟩ := iterP_some hb
  refine x_loop (P := fun a => V X (0, 0) σ 4 [(2, .int (a.1)), (3, .long (a.2))] []) ?_ n a0 hn
  intro a c hf hK hxx
  have hx0 : ∀ s, c = Sum.inr s → V X (0, 0) σ 22 [(2, .int (s))] [] := fun s e => hy0 s (hxx _ e).symm
  unfold fLX12_length_4 at hf
  refine x_lload_n C dX12_length_4 5 rfl 1 rfl rfl ?_
  refine x_lconst C dX12_length_5 6 rfl 0 (by decide) ?_
  refine x_lcmp C dX12_length_6 7 rfl ?_
  refine x_if_le C dX12_length_7 22 (by decide) 10 rfl (fun hc => ?_) (fun hc => ?_)
  · have hf := (if_pos hc).symm.trans hf
    refine x_lv [0] (lv' := [(2, .int (a.1))]) rfl ?_
    exact hx0 _ (Option.some.inj hf).symm
  · have hf := (if_neg hc).symm.trans hf
    obtain ⟨v10, ev10, hf⟩ := xlet_some hf
    refine x_iinc C dX12_length_10 13 rfl 0 rfl v10 ev10 rfl [(2, .int (v10)), (3, .long (a.2))] rfl ?_
    refine x_lload_n C dX12_length_13 14 rfl 1 rfl rfl ?_
    refine x_ldc2 C dX12_length_14 17 rfl w1704 ?_
    refine x_ldiv C dX12_length_17 18 rfl (by decide) ?_
    obtain ⟨v18, ev18, hf⟩ := xlet_some hf
    refine x_topl ev18 ?_
    refine x_lstore_n C dX12_length_18 19 rfl rfl rfl [(3, .long (v18)), (2, .int (v10))] rfl ?_
    refine x_goto C dX12_length_19 4 (by decide) ?_
    refine x_lv [1, 0] (lv' := [(2, .int (v10)), (3, .long (v18))]) rfl ?_
    exact hK _ (Option.some.inj hf).symm
noncomputable def fX12_length (x0 : Int64) : Option (Int32) :=
(iterP (fLX12_length_4 ) (0, x0)).bind fun b4 =>
some b4
set_option maxHeartbeats 4000000 in
set_option maxRecDepth 100000 in
theorem cX12_lengthc {l : Launch} {G : xG} {A : Nat → Prop} {σ : St} {x0 : Int64} {c : Int32} (hf : fX12_length x0 = some c) : Con l yX12_length (xws yX12_length cX12_length 5 (some .int)) rmX12_length [.long (x0)] G A σ (some (.int c)) σ := by
  refine x_start rfl (Nat.le_of_ble_eq_true rfl) (fun X _ _ _ C hE0 => ?_)
  have hE : ∀ r, c = r → xE1 X (some (.int r)) σ := fun r e => e ▸ hE0
  show V X (0, 0) σ 0 [(0, .long (x0))] []
  unfold fX12_length at hf
  refine x_iconst C dX12_length_0 1 rfl 0 (by decide) ?_
  refine x_istore_n C dX12_length_1 2 rfl rfl rfl [(2, .int (0)), (0, .long (x0))] rfl ?_
  refine x_lload_n C dX12_length_2 3 rfl 1 rfl rfl ?_
  refine x_lstore_n C dX12_length_3 4 rfl rfl rfl [(3, .long (x0)), (2, .int (0)), (0, .long (x0))] rfl ?_
  obtain ⟨b4, hb4, hf⟩ := x_bind hf
  refine x_lv [1, 0] (lv' := [(2, .int (0)), (3, .long (x0))]) rfl ?_
  refine lpX12_length_4 C hb4 (fun s4 e4 => ?_)
  subst e4
  refine x_iload_n C dX12_length_22 23 rfl 0 rfl rfl ?_
  exact x_iret C (hE _ (Option.some.inj hf).symm) dX12_length_23
theorem dX12_power_0 : decode cX12_power 0 = .ok (.lconst 1, 1) := by decide +kernel
theorem dX12_power_1 : decode cX12_power 1 = .ok (.lstore_n 1, 1) := by decide +kernel
theorem dX12_power_2 : decode cX12_power 2 = .ok (.iconst 0, 1) := by decide +kernel
theorem dX12_power_3 : decode cX12_power 3 = .ok (.istore_n 3, 1) := by decide +kernel
theorem dX12_power_4 : decode cX12_power 4 = .ok (.iload_n 3, 1) := by decide +kernel
theorem dX12_power_5 : decode cX12_power 5 = .ok (.iload_n 0, 1) := by decide +kernel
theorem dX12_power_6 : decode cX12_power 6 = .ok (.if_icmp .ge 15, 3) := by decide +kernel
theorem dX12_power_9 : decode cX12_power 9 = .ok (.lload_n 1, 1) := by decide +kernel
theorem dX12_power_10 : decode cX12_power 10 = .ok (.ldc2_w 134, 3) := by decide +kernel
theorem dX12_power_13 : decode cX12_power 13 = .ok (.lmul, 1) := by decide +kernel
theorem dX12_power_14 : decode cX12_power 14 = .ok (.lstore_n 1, 1) := by decide +kernel
theorem dX12_power_15 : decode cX12_power 15 = .ok (.iinc 3 1, 3) := by decide +kernel
theorem dX12_power_18 : decode cX12_power 18 = .ok (.goto (-14), 3) := by decide +kernel
theorem dX12_power_21 : decode cX12_power 21 = .ok (.lload_n 1, 1) := by decide +kernel
theorem dX12_power_22 : decode cX12_power 22 = .ok (.lreturn, 1) := by decide +kernel
abbrev rmX12_power : Room := { frames := 0, cells := 0, slots := 0, locals := 0 }
noncomputable def fLX12_power_4 (x0 : Int32) (a : Int64 × Int32) : Option ((Int64 × Int32) ⊕ (Int64)) :=
if x0 ≤ a.2 then
(some (Sum.inr a.1))
else
(xlet (a.1 * 6) fun v14 =>
xlet (a.2 + 1) fun v15 =>
some (Sum.inl (v14, v15)))
set_option maxHeartbeats 4000000 in
set_option maxRecDepth 100000 in
theorem lpX12_power_4 {X : xX} {σ : St} {x0 : Int32}  {a0 : Int64 × Int32} {b : Int64} (C : Ok X cX12_power 4 RX12 rmX12_power (some .long)) (hb : iterP (fLX12_power_4 x0) a0 = some b) (hy0 : ∀ s, b = s → V X (0, 0) σ 21 [(1, .long (s))] []) : V X (0, 0) σ 4 [(0, .int (x0)), (1, .long (a0.1)), (3, .int (a0.2))] [] := by
  obtain ⟨n, hn⟩ := iterP_some hb
  refine x_loop (P := fun a => V X (0, 0) σ 4 [(0, .int (x0)), (1, .long (a.1)), (3, .int (a.2))] []) ?_ n a0 hn
  intro a c hf hK hxx
  have hx0 : ∀ s, c = Sum.inr s → V X (0, 0) σ 21 [(1, .long (s))] [] := fun s e => hy0 s (hxx _ e).symm
  unfold fLX12_power_4 at hf
  refine x_iload_n C dX12_power_4 5 rfl 2 rfl rfl ?_
  refine x_iload_n C dX12_power_5 6 rfl 0 rfl rfl ?_
  refine x_icmp_ge C dX12_power_6 21 (by decide) 9 rfl (fun hc => ?_) (fun hc => ?_)
  · have hf := (if_pos hc).symm.trans hf
    refine x_lv [1] (lv' := [(1, .long (a.1))]) rfl ?_
    exact hx0 _ (Option.some.inj hf).symm
  · have hf := (if_neg hc).symm.trans hf
    refine x_lload_n C dX12_power_9 10 rfl 1 rfl rfl ?_
    refine x_ldc2 C dX12_power_10 13 rfl w1704 ?_
    refine x_lmul C dX12_power_13 14 rfl ?_
    obtain ⟨v14, ev14, hf⟩ := xlet_some hf
    refine x_topl ev14 ?_
    refine x_lstore_n C dX12_power_14 15 rfl rfl rfl [(1, .long (v14)), (0, .int (x0)), (3, .int (a.2))] rfl ?_
    obtain ⟨v15, ev15, hf⟩ := xlet_some hf
    refine x_iinc C dX12_power_15 18 rfl 2 rfl v15 ev15 rfl [(3, .int (v15)), (1, .long (v14)), (0, .int (x0))] rfl ?_
    refine x_goto C dX12_power_18 4 (by decide) ?_
    refine x_lv [2, 1, 0] (lv' := [(0, .int (x0)), (1, .long (v14)), (3, .int (v15))]) rfl ?_
    exact hK _ (Option.some.inj hf).symm
noncomputable def fX12_power (x0 : Int32) : Option (Int64) :=
(iterP (fLX12_power_4 x0) (1, 0)).bind fun b4 =>
some b4
set_option maxHeartbeats 4000000 in
set_option maxRecDepth 100000 in
theorem cX12_powerc {l : Launch} {G : xG} {A : Nat → Prop} {σ : St} {x0 : Int32} {c : Int64} (hf : fX12_power x0 = some c) : Con l yX12_power (xws yX12_power cX12_power 4 (some .long)) rmX12_power [.int (x0)] G A σ (some (.long c)) σ := by
  refine x_start rfl (Nat.le_of_ble_eq_true rfl) (fun X _ _ _ C hE0 => ?_)
  have hE : ∀ r, c = r → xE1 X (some (.long r)) σ := fun r e => e ▸ hE0
  show V X (0, 0) σ 0 [(0, .int (x0))] []
  unfold fX12_power at hf
  refine x_lconst C dX12_power_0 1 rfl 1 (by decide) ?_
  refine x_lstore_n C dX12_power_1 2 rfl rfl rfl [(1, .long (1)), (0, .int (x0))] rfl ?_
  refine x_iconst C dX12_power_2 3 rfl 0 (by decide) ?_
  refine x_istore_n C dX12_power_3 4 rfl rfl rfl [(3, .int (0)), (1, .long (1)), (0, .int (x0))] rfl ?_
  obtain ⟨b4, hb4, hf⟩ := x_bind hf
  refine x_lv [2, 1, 0] (lv' := [(0, .int (x0)), (1, .long (1)), (3, .int (0))]) rfl ?_
  refine lpX12_power_4 C hb4 (fun s4 e4 => ?_)
  subst e4
  refine x_lload_n C dX12_power_21 22 rfl 0 rfl rfl ?_
  exact x_lret C (hE _ (Option.some.inj hf).symm) dX12_power_22
theorem dX12_part_0 : decode cX12_part 0 = .ok (.lload_n 0, 1) := by decide +kernel
theorem dX12_part_1 : decode cX12_part 1 = .ok (.lload_n 0, 1) := by decide +kernel
theorem dX12_part_2 : decode cX12_part 2 = .ok (.invokestatic 136, 3) := by decide +kernel
theorem dX12_part_5 : decode cX12_part 5 = .ok (.iload_n 2, 1) := by decide +kernel
theorem dX12_part_6 : decode cX12_part 6 = .ok (.isub, 1) := by decide +kernel
theorem dX12_part_7 : decode cX12_part 7 = .ok (.iload_n 3, 1) := by decide +kernel
theorem dX12_part_8 : decode cX12_part 8 = .ok (.isub, 1) := by decide +kernel
theorem dX12_part_9 : decode cX12_part 9 = .ok (.invokestatic 140, 3) := by decide +kernel
theorem dX12_part_12 : decode cX12_part 12 = .ok (.ldiv, 1) := by decide +kernel
theorem dX12_part_13 : decode cX12_part 13 = .ok (.iload_n 3, 1) := by decide +kernel
theorem dX12_part_14 : decode cX12_part 14 = .ok (.invokestatic 140, 3) := by decide +kernel
theorem dX12_part_17 : decode cX12_part 17 = .ok (.lrem, 1) := by decide +kernel
theorem dX12_part_18 : decode cX12_part 18 = .ok (.lreturn, 1) := by decide +kernel
abbrev rmX12_part : Room := { frames := 1, cells := 0, slots := 0, locals := 24 }
noncomputable def fX12_part (x0 : Int64) (x2 : Int32) (x3 : Int32) : Option (Int64) :=
(fX12_length x0).bind fun w2 =>
(fX12_power ((w2 - x2) - x3)).bind fun w9 =>
if w9 = 0 then none else
(fX12_power x3).bind fun w14 =>
if w14 = 0 then none else
some ((x0 / w9) - (x0 / w9) / w14 * w14)
set_option maxHeartbeats 4000000 in
set_option maxRecDepth 100000 in
theorem cX12_partc {l : Launch} {G : xG} {A : Nat → Prop} {σ : St} {x0 : Int64} {x2 : Int32} {x3 : Int32} {c : Int64} (hf : fX12_part x0 x2 x3 = some c) : Con l yX12_part (xws yX12_part cX12_part 4 (some .long)) rmX12_part [.long (x0), .int (x2), .int (x3)] G A σ (some (.long c)) σ := by
  refine x_start rfl (Nat.le_of_ble_eq_true rfl) (fun X _ _ _ C hE0 => ?_)
  have hE : ∀ r, c = r → xE1 X (some (.long r)) σ := fun r e => e ▸ hE0
  show V X (0, 0) σ 0 [(0, .long (x0)), (2, .int (x2)), (3, .int (x3))] []
  unfold fX12_part at hf
  refine x_lload_n C dX12_part_0 1 rfl 0 rfl rfl ?_
  refine x_lload_n C dX12_part_1 2 rfl 0 rfl rfl ?_
  obtain ⟨w2, hw2, hf⟩ := x_bind hf
  refine x_callSi C dX12_part_2 5 rfl (cX12_lengthc hw2) kX12_length ksX12_length w1728 ⟨rfl, rfl⟩ ⟨Nat.le_of_ble_eq_true rfl, Nat.le_of_ble_eq_true rfl⟩ ⟨Nat.zero_le _, Nat.zero_le _⟩ rfl rfl (Nat.le_of_ble_eq_true rfl) ?_
  refine x_iload_n C dX12_part_5 6 rfl 1 rfl rfl ?_
  refine x_isub C dX12_part_6 7 rfl ?_
  refine x_iload_n C dX12_part_7 8 rfl 2 rfl rfl ?_
  refine x_isub C dX12_part_8 9 rfl ?_
  obtain ⟨w9, hw9, hf⟩ := x_bind hf
  refine x_callSl C dX12_part_9 12 rfl (cX12_powerc hw9) kX12_power ksX12_power w1731 ⟨rfl, rfl⟩ ⟨Nat.le_of_ble_eq_true rfl, Nat.le_of_ble_eq_true rfl⟩ ⟨Nat.zero_le _, Nat.zero_le _⟩ rfl rfl (Nat.le_of_ble_eq_true rfl) ?_
  by_cases hz12 : w9 = 0
  · have hf := (if_pos hz12).symm.trans hf
    cases hf
  · have hf := (if_neg hz12).symm.trans hf
    refine x_ldiv C dX12_part_12 13 rfl hz12 ?_
    refine x_iload_n C dX12_part_13 14 rfl 2 rfl rfl ?_
    obtain ⟨w14, hw14, hf⟩ := x_bind hf
    refine x_callSl C dX12_part_14 17 rfl (cX12_powerc hw14) kX12_power ksX12_power w1731 ⟨rfl, rfl⟩ ⟨Nat.le_of_ble_eq_true rfl, Nat.le_of_ble_eq_true rfl⟩ ⟨Nat.zero_le _, Nat.zero_le _⟩ rfl rfl (Nat.le_of_ble_eq_true rfl) ?_
    by_cases hz17 : w14 = 0
    · have hf := (if_pos hz17).symm.trans hf
      cases hf
    · have hf := (if_neg hz17).symm.trans hf
      refine x_lrem C dX12_part_17 18 rfl hz17 ?_
      exact x_lret C (hE _ (Option.some.inj hf).symm) dX12_part_18
theorem dX12_joined_0 : decode cX12_joined 0 = .ok (.lload_n 0, 1) := by decide +kernel
theorem dX12_joined_1 : decode cX12_joined 1 = .ok (.lload_n 2, 1) := by decide +kernel
theorem dX12_joined_2 : decode cX12_joined 2 = .ok (.invokestatic 136, 3) := by decide +kernel
theorem dX12_joined_5 : decode cX12_joined 5 = .ok (.invokestatic 140, 3) := by decide +kernel
theorem dX12_joined_8 : decode cX12_joined 8 = .ok (.lmul, 1) := by decide +kernel
theorem dX12_joined_9 : decode cX12_joined 9 = .ok (.lload_n 2, 1) := by decide +kernel
theorem dX12_joined_10 : decode cX12_joined 10 = .ok (.ladd, 1) := by decide +kernel
theorem dX12_joined_11 : decode cX12_joined 11 = .ok (.lreturn, 1) := by decide +kernel
abbrev rmX12_joined : Room := { frames := 1, cells := 0, slots := 0, locals := 24 }
noncomputable def fX12_joined (x0 : Int64) (x2 : Int64) : Option (Int64) :=
(fX12_length x2).bind fun w2 =>
(fX12_power w2).bind fun w5 =>
some ((x0 * w5) + x2)
set_option maxHeartbeats 4000000 in
set_option maxRecDepth 100000 in
theorem cX12_joinedc {l : Launch} {G : xG} {A : Nat → Prop} {σ : St} {x0 : Int64} {x2 : Int64} {c : Int64} (hf : fX12_joined x0 x2 = some c) : Con l yX12_joined (xws yX12_joined cX12_joined 4 (some .long)) rmX12_joined [.long (x0), .long (x2)] G A σ (some (.long c)) σ := by
  refine x_start rfl (Nat.le_of_ble_eq_true rfl) (fun X _ _ _ C hE0 => ?_)
  have hE : ∀ r, c = r → xE1 X (some (.long r)) σ := fun r e => e ▸ hE0
  show V X (0, 0) σ 0 [(0, .long (x0)), (2, .long (x2))] []
  unfold fX12_joined at hf
  refine x_lload_n C dX12_joined_0 1 rfl 0 rfl rfl ?_
  refine x_lload_n C dX12_joined_1 2 rfl 1 rfl rfl ?_
  obtain ⟨w2, hw2, hf⟩ := x_bind hf
  refine x_callSi C dX12_joined_2 5 rfl (cX12_lengthc hw2) kX12_length ksX12_length w1728 ⟨rfl, rfl⟩ ⟨Nat.le_of_ble_eq_true rfl, Nat.le_of_ble_eq_true rfl⟩ ⟨Nat.zero_le _, Nat.zero_le _⟩ rfl rfl (Nat.le_of_ble_eq_true rfl) ?_
  obtain ⟨w5, hw5, hf⟩ := x_bind hf
  refine x_callSl C dX12_joined_5 8 rfl (cX12_powerc hw5) kX12_power ksX12_power w1731 ⟨rfl, rfl⟩ ⟨Nat.le_of_ble_eq_true rfl, Nat.le_of_ble_eq_true rfl⟩ ⟨Nat.zero_le _, Nat.zero_le _⟩ rfl rfl (Nat.le_of_ble_eq_true rfl) ?_
  refine x_lmul C dX12_joined_8 9 rfl ?_
  refine x_lload_n C dX12_joined_9 10 rfl 1 rfl rfl ?_
  refine x_ladd C dX12_joined_10 11 rfl ?_
  exact x_lret C (hE _ (Option.some.inj hf).symm) dX12_joined_11
theorem dX12_put_0 : decode cX12_put 0 = .ok (.lload_n 0, 1) := by decide +kernel
theorem dX12_put_1 : decode cX12_put 1 = .ok (.invokestatic 136, 3) := by decide +kernel
theorem dX12_put_4 : decode cX12_put 4 = .ok (.istore 6, 2) := by decide +kernel
theorem dX12_put_6 : decode cX12_put 6 = .ok (.lload_n 0, 1) := by decide +kernel
theorem dX12_put_7 : decode cX12_put 7 = .ok (.iconst 0, 1) := by decide +kernel
theorem dX12_put_8 : decode cX12_put 8 = .ok (.iload_n 2, 1) := by decide +kernel
theorem dX12_put_9 : decode cX12_put 9 = .ok (.invokestatic 144, 3) := by decide +kernel
theorem dX12_put_12 : decode cX12_put 12 = .ok (.lload 4, 2) := by decide +kernel
theorem dX12_put_14 : decode cX12_put 14 = .ok (.invokestatic 148, 3) := by decide +kernel
theorem dX12_put_17 : decode cX12_put 17 = .ok (.lload_n 0, 1) := by decide +kernel
theorem dX12_put_18 : decode cX12_put 18 = .ok (.iload_n 2, 1) := by decide +kernel
theorem dX12_put_19 : decode cX12_put 19 = .ok (.iload_n 3, 1) := by decide +kernel
theorem dX12_put_20 : decode cX12_put 20 = .ok (.iadd, 1) := by decide +kernel
theorem dX12_put_21 : decode cX12_put 21 = .ok (.iload 6, 2) := by decide +kernel
theorem dX12_put_23 : decode cX12_put 23 = .ok (.iload_n 2, 1) := by decide +kernel
theorem dX12_put_24 : decode cX12_put 24 = .ok (.isub, 1) := by decide +kernel
theorem dX12_put_25 : decode cX12_put 25 = .ok (.iload_n 3, 1) := by decide +kernel
theorem dX12_put_26 : decode cX12_put 26 = .ok (.isub, 1) := by decide +kernel
theorem dX12_put_27 : decode cX12_put 27 = .ok (.invokestatic 144, 3) := by decide +kernel
theorem dX12_put_30 : decode cX12_put 30 = .ok (.invokestatic 148, 3) := by decide +kernel
theorem dX12_put_33 : decode cX12_put 33 = .ok (.lreturn, 1) := by decide +kernel
abbrev rmX12_put : Room := { frames := 2, cells := 0, slots := 0, locals := 47 }
noncomputable def fX12_put (x0 : Int64) (x2 : Int32) (x3 : Int32) (x4 : Int64) : Option (Int64) :=
(fX12_length x0).bind fun w1 =>
(fX12_part x0 0 x2).bind fun w9 =>
(fX12_joined w9 x4).bind fun w14 =>
(fX12_part x0 (x2 + x3) ((w1 - x2) - x3)).bind fun w27 =>
(fX12_joined w14 w27).bind fun w30 =>
some w30
set_option maxHeartbeats 4000000 in
set_option maxRecDepth 100000 in
theorem cX12_putc {l : Launch} {G : xG} {A : Nat → Prop} {σ : St} {x0 : Int64} {x2 : Int32} {x3 : Int32} {x4 : Int64} {c : Int64} (hf : fX12_put x0 x2 x3 x4 = some c) : Con l yX12_put (xws yX12_put cX12_put 7 (some .long)) rmX12_put [.long (x0), .int (x2), .int (x3), .long (x4)] G A σ (some (.long c)) σ := by
  refine x_start rfl (Nat.le_of_ble_eq_true rfl) (fun X _ _ _ C hE0 => ?_)
  have hE : ∀ r, c = r → xE1 X (some (.long r)) σ := fun r e => e ▸ hE0
  show V X (0, 0) σ 0 [(0, .long (x0)), (2, .int (x2)), (3, .int (x3)), (4, .long (x4))] []
  unfold fX12_put at hf
  refine x_lload_n C dX12_put_0 1 rfl 0 rfl rfl ?_
  obtain ⟨w1, hw1, hf⟩ := x_bind hf
  refine x_callSi C dX12_put_1 4 rfl (cX12_lengthc hw1) kX12_length ksX12_length w1728 ⟨rfl, rfl⟩ ⟨Nat.le_of_ble_eq_true rfl, Nat.le_of_ble_eq_true rfl⟩ ⟨Nat.zero_le _, Nat.zero_le _⟩ rfl rfl (Nat.le_of_ble_eq_true rfl) ?_
  refine x_istore C dX12_put_4 6 rfl rfl [(6, .int (w1)), (0, .long (x0)), (2, .int (x2)), (3, .int (x3)), (4, .long (x4))] rfl ?_
  refine x_lload_n C dX12_put_6 7 rfl 1 rfl rfl ?_
  refine x_iconst C dX12_put_7 8 rfl 0 (by decide) ?_
  refine x_iload_n C dX12_put_8 9 rfl 2 rfl rfl ?_
  obtain ⟨w9, hw9, hf⟩ := x_bind hf
  refine x_callSl C dX12_put_9 12 rfl (cX12_partc hw9) kX12_part ksX12_part w1725 ⟨rfl, rfl⟩ ⟨Nat.le_of_ble_eq_true rfl, Nat.le_of_ble_eq_true rfl⟩ ⟨Nat.zero_le _, Nat.zero_le _⟩ rfl rfl (Nat.le_of_ble_eq_true rfl) ?_
  refine x_lload C dX12_put_12 14 rfl 4 rfl ?_
  obtain ⟨w14, hw14, hf⟩ := x_bind hf
  refine x_callSl C dX12_put_14 17 rfl (cX12_joinedc hw14) kX12_joined ksX12_joined w1789 ⟨rfl, rfl⟩ ⟨Nat.le_of_ble_eq_true rfl, Nat.le_of_ble_eq_true rfl⟩ ⟨Nat.zero_le _, Nat.zero_le _⟩ rfl rfl (Nat.le_of_ble_eq_true rfl) ?_
  refine x_lload_n C dX12_put_17 18 rfl 1 rfl rfl ?_
  refine x_iload_n C dX12_put_18 19 rfl 2 rfl rfl ?_
  refine x_iload_n C dX12_put_19 20 rfl 3 rfl rfl ?_
  refine x_iadd C dX12_put_20 21 rfl ?_
  refine x_iload C dX12_put_21 23 rfl 0 rfl ?_
  refine x_iload_n C dX12_put_23 24 rfl 2 rfl rfl ?_
  refine x_isub C dX12_put_24 25 rfl ?_
  refine x_iload_n C dX12_put_25 26 rfl 3 rfl rfl ?_
  refine x_isub C dX12_put_26 27 rfl ?_
  obtain ⟨w27, hw27, hf⟩ := x_bind hf
  refine x_callSl C dX12_put_27 30 rfl (cX12_partc hw27) kX12_part ksX12_part w1725 ⟨rfl, rfl⟩ ⟨Nat.le_of_ble_eq_true rfl, Nat.le_of_ble_eq_true rfl⟩ ⟨Nat.zero_le _, Nat.zero_le _⟩ rfl rfl (Nat.le_of_ble_eq_true rfl) ?_
  obtain ⟨w30, hw30, hf⟩ := x_bind hf
  refine x_callSl C dX12_put_30 33 rfl (cX12_joinedc hw30) kX12_joined ksX12_joined w1789 ⟨rfl, rfl⟩ ⟨Nat.le_of_ble_eq_true rfl, Nat.le_of_ble_eq_true rfl⟩ ⟨Nat.zero_le _, Nat.zero_le _⟩ rfl rfl (Nat.le_of_ble_eq_true rfl) ?_
  exact x_lret C (hE _ (Option.some.inj hf).symm) dX12_put_33
theorem dX12_made_0 : decode cX12_made 0 = .ok (.lload_n 0, 1) := by decide +kernel
theorem dX12_made_1 : decode cX12_made 1 = .ok (.invokestatic 136, 3) := by decide +kernel
theorem dX12_made_4 : decode cX12_made 4 = .ok (.istore 7, 2) := by decide +kernel
theorem dX12_made_6 : decode cX12_made 6 = .ok (.lload_n 3, 1) := by decide +kernel
theorem dX12_made_7 : decode cX12_made 7 = .ok (.invokestatic 136, 3) := by decide +kernel
theorem dX12_made_10 : decode cX12_made 10 = .ok (.istore 8, 2) := by decide +kernel
theorem dX12_made_12 : decode cX12_made 12 = .ok (.iload_n 2, 1) := by decide +kernel
theorem dX12_made_13 : decode cX12_made 13 = .ok (.iload 8, 2) := by decide +kernel
theorem dX12_made_15 : decode cX12_made 15 = .ok (.iadd, 1) := by decide +kernel
theorem dX12_made_16 : decode cX12_made 16 = .ok (.iload 7, 2) := by decide +kernel
theorem dX12_made_18 : decode cX12_made 18 = .ok (.if_icmp .gt 31, 3) := by decide +kernel
theorem dX12_made_21 : decode cX12_made 21 = .ok (.lload_n 0, 1) := by decide +kernel
theorem dX12_made_22 : decode cX12_made 22 = .ok (.iload_n 2, 1) := by decide +kernel
theorem dX12_made_23 : decode cX12_made 23 = .ok (.iload 8, 2) := by decide +kernel
theorem dX12_made_25 : decode cX12_made 25 = .ok (.invokestatic 144, 3) := by decide +kernel
theorem dX12_made_28 : decode cX12_made 28 = .ok (.lload_n 3, 1) := by decide +kernel
theorem dX12_made_29 : decode cX12_made 29 = .ok (.lcmp, 1) := by decide +kernel
theorem dX12_made_30 : decode cX12_made 30 = .ok (.ifCond .ne 19, 3) := by decide +kernel
theorem dX12_made_33 : decode cX12_made 33 = .ok (.iload 7, 2) := by decide +kernel
theorem dX12_made_35 : decode cX12_made 35 = .ok (.iload 8, 2) := by decide +kernel
theorem dX12_made_37 : decode cX12_made 37 = .ok (.isub, 1) := by decide +kernel
theorem dX12_made_38 : decode cX12_made 38 = .ok (.lload 5, 2) := by decide +kernel
theorem dX12_made_40 : decode cX12_made 40 = .ok (.invokestatic 136, 3) := by decide +kernel
theorem dX12_made_43 : decode cX12_made 43 = .ok (.iadd, 1) := by decide +kernel
theorem dX12_made_44 : decode cX12_made 44 = .ok (.bipush 16, 2) := by decide +kernel
theorem dX12_made_46 : decode cX12_made 46 = .ok (.if_icmp .le 7, 3) := by decide +kernel
theorem dX12_made_49 : decode cX12_made 49 = .ok (.ldc2_w 276, 3) := by decide +kernel
theorem dX12_made_52 : decode cX12_made 52 = .ok (.lreturn, 1) := by decide +kernel
theorem dX12_made_53 : decode cX12_made 53 = .ok (.lload_n 0, 1) := by decide +kernel
theorem dX12_made_54 : decode cX12_made 54 = .ok (.iload_n 2, 1) := by decide +kernel
theorem dX12_made_55 : decode cX12_made 55 = .ok (.iload 8, 2) := by decide +kernel
theorem dX12_made_57 : decode cX12_made 57 = .ok (.lload 5, 2) := by decide +kernel
theorem dX12_made_59 : decode cX12_made 59 = .ok (.invokestatic 278, 3) := by decide +kernel
theorem dX12_made_62 : decode cX12_made 62 = .ok (.lreturn, 1) := by decide +kernel
abbrev rmX12_made : Room := { frames := 3, cells := 0, slots := 0, locals := 73 }
noncomputable def fX12_made (x0 : Int64) (x2 : Int32) (x3 : Int64) (x5 : Int64) : Option (Int64) :=
(fX12_length x0).bind fun w1 =>
(fX12_length x3).bind fun w7 =>
if w1 < (x2 + w7) then
(some (-1))
else
((fX12_part x0 x2 w7).bind fun w25 =>
if (lg_cmp w25 x3) = 0 then
((fX12_length x5).bind fun w40 =>
if ((w1 - w7) + w40) ≤ ((16 : Int32)) then
((fX12_put x0 x2 w7 x5).bind fun w59 =>
some w59)
else
(some (-1)))
else
(some (-1)))
set_option maxHeartbeats 4000000 in
set_option maxRecDepth 100000 in
theorem cX12_madec {l : Launch} {G : xG} {A : Nat → Prop} {σ : St} {x0 : Int64} {x2 : Int32} {x3 : Int64} {x5 : Int64} {c : Int64} (hf : fX12_made x0 x2 x3 x5 = some c) : Con l yX12_made (xws yX12_made cX12_made 9 (some .long)) rmX12_made [.long (x0), .int (x2), .long (x3), .long (x5)] G A σ (some (.long c)) σ := by
  refine x_start rfl (Nat.le_of_ble_eq_true rfl) (fun X _ _ _ C hE0 => ?_)
  have hE : ∀ r, c = r → xE1 X (some (.long r)) σ := fun r e => e ▸ hE0
  show V X (0, 0) σ 0 [(0, .long (x0)), (2, .int (x2)), (3, .long (x3)), (5, .long (x5))] []
  unfold fX12_made at hf
  refine x_lload_n C dX12_made_0 1 rfl 0 rfl rfl ?_
  obtain ⟨w1, hw1, hf⟩ := x_bind hf
  refine x_callSi C dX12_made_1 4 rfl (cX12_lengthc hw1) kX12_length ksX12_length w1728 ⟨rfl, rfl⟩ ⟨Nat.le_of_ble_eq_true rfl, Nat.le_of_ble_eq_true rfl⟩ ⟨Nat.zero_le _, Nat.zero_le _⟩ rfl rfl (Nat.le_of_ble_eq_true rfl) ?_
  refine x_istore C dX12_made_4 6 rfl rfl [(7, .int (w1)), (0, .long (x0)), (2, .int (x2)), (3, .long (x3)), (5, .long (x5))] rfl ?_
  refine x_lload_n C dX12_made_6 7 rfl 3 rfl rfl ?_
  obtain ⟨w7, hw7, hf⟩ := x_bind hf
  refine x_callSi C dX12_made_7 10 rfl (cX12_lengthc hw7) kX12_length ksX12_length w1728 ⟨rfl, rfl⟩ ⟨Nat.le_of_ble_eq_true rfl, Nat.le_of_ble_eq_true rfl⟩ ⟨Nat.zero_le _, Nat.zero_le _⟩ rfl rfl (Nat.le_of_ble_eq_true rfl) ?_
  refine x_istore C dX12_made_10 12 rfl rfl [(8, .int (w7)), (7, .int (w1)), (0, .long (x0)), (2, .int (x2)), (3, .long (x3)), (5, .long (x5))] rfl ?_
  refine x_iload_n C dX12_made_12 13 rfl 3 rfl rfl ?_
  refine x_iload C dX12_made_13 15 rfl 0 rfl ?_
  refine x_iadd C dX12_made_15 16 rfl ?_
  refine x_iload C dX12_made_16 18 rfl 1 rfl ?_
  refine x_icmp_gt C dX12_made_18 49 (by decide) 21 rfl (fun hc => ?_) (fun hc => ?_)
  · have hf := (if_pos hc).symm.trans hf
    refine x_ldc2 C dX12_made_49 52 rfl w1788 ?_
    exact x_lret C (hE _ (Option.some.inj hf).symm) dX12_made_52
  · have hf := (if_neg hc).symm.trans hf
    refine x_lload_n C dX12_made_21 22 rfl 2 rfl rfl ?_
    refine x_iload_n C dX12_made_22 23 rfl 3 rfl rfl ?_
    refine x_iload C dX12_made_23 25 rfl 0 rfl ?_
    obtain ⟨w25, hw25, hf⟩ := x_bind hf
    refine x_callSl C dX12_made_25 28 rfl (cX12_partc hw25) kX12_part ksX12_part w1725 ⟨rfl, rfl⟩ ⟨Nat.le_of_ble_eq_true rfl, Nat.le_of_ble_eq_true rfl⟩ ⟨Nat.zero_le _, Nat.zero_le _⟩ rfl rfl (Nat.le_of_ble_eq_true rfl) ?_
    refine x_lload_n C dX12_made_28 29 rfl 4 rfl rfl ?_
    refine x_lcmp C dX12_made_29 30 rfl ?_
    refine x_if_ne C dX12_made_30 49 (by decide) 33 rfl (fun hc => ?_) (fun hc => ?_)
    · have hf := (if_neg hc).symm.trans hf
      refine x_ldc2 C dX12_made_49 52 rfl w1788 ?_
      exact x_lret C (hE _ (Option.some.inj hf).symm) dX12_made_52
    · have hf := (if_pos hc).symm.trans hf
      refine x_iload C dX12_made_33 35 rfl 1 rfl ?_
      refine x_iload C dX12_made_35 37 rfl 0 rfl ?_
      refine x_isub C dX12_made_37 38 rfl ?_
      refine x_lload C dX12_made_38 40 rfl 5 rfl ?_
      obtain ⟨w40, hw40, hf⟩ := x_bind hf
      refine x_callSi C dX12_made_40 43 rfl (cX12_lengthc hw40) kX12_length ksX12_length w1728 ⟨rfl, rfl⟩ ⟨Nat.le_of_ble_eq_true rfl, Nat.le_of_ble_eq_true rfl⟩ ⟨Nat.zero_le _, Nat.zero_le _⟩ rfl rfl (Nat.le_of_ble_eq_true rfl) ?_
      refine x_iadd C dX12_made_43 44 rfl ?_
      refine x_bipush C dX12_made_44 46 rfl 16 (by decide) ?_
      refine x_icmp_le C dX12_made_46 53 (by decide) 49 rfl (fun hc => ?_) (fun hc => ?_)
      · have hf := (if_pos hc).symm.trans hf
        refine x_lload_n C dX12_made_53 54 rfl 2 rfl rfl ?_
        refine x_iload_n C dX12_made_54 55 rfl 3 rfl rfl ?_
        refine x_iload C dX12_made_55 57 rfl 0 rfl ?_
        refine x_lload C dX12_made_57 59 rfl 5 rfl ?_
        obtain ⟨w59, hw59, hf⟩ := x_bind hf
        refine x_callSl C dX12_made_59 62 rfl (cX12_putc hw59) kX12_put ksX12_put w1795 ⟨rfl, rfl⟩ ⟨Nat.le_of_ble_eq_true rfl, Nat.le_of_ble_eq_true rfl⟩ ⟨Nat.zero_le _, Nat.zero_le _⟩ rfl rfl (Nat.le_of_ble_eq_true rfl) ?_
        exact x_lret C (hE _ (Option.some.inj hf).symm) dX12_made_62
      · have hf := (if_neg hc).symm.trans hf
        refine x_ldc2 C dX12_made_49 52 rfl w1788 ?_
        exact x_lret C (hE _ (Option.some.inj hf).symm) dX12_made_52
theorem dX12_rightOf_0 : decode cX12_rightOf 0 = .ok (.aload_n 0, 1) := by decide +kernel
theorem dX12_rightOf_1 : decode cX12_rightOf 1 = .ok (.getfield 13, 3) := by decide +kernel
theorem dX12_rightOf_4 : decode cX12_rightOf 4 = .ok (.bipush 24, 2) := by decide +kernel
theorem dX12_rightOf_6 : decode cX12_rightOf 6 = .ok (.iload_n 1, 1) := by decide +kernel
theorem dX12_rightOf_7 : decode cX12_rightOf 7 = .ok (.iadd, 1) := by decide +kernel
theorem dX12_rightOf_8 : decode cX12_rightOf 8 = .ok (.laload, 1) := by decide +kernel
theorem dX12_rightOf_9 : decode cX12_rightOf 9 = .ok (.lreturn, 1) := by decide +kernel
abbrev rmX12_rightOf : Room := { frames := 0, cells := 0, slots := 0, locals := 0 }
noncomputable def fX12_rightOf (σ : St) (x0 : Nat) (x1 : Int32) : Option (Int64) :=
(gR σ x0 11 1).bind fun v1 =>
(aL σ v1 (24 + x1)).bind fun v8 =>
some v8
set_option maxHeartbeats 4000000 in
set_option maxRecDepth 100000 in
theorem cX12_rightOfc {l : Launch} {G : xG} {A : Nat → Prop} {σ : St} {x0 : Nat} {x1 : Int32} {c : Int64} (hf : fX12_rightOf σ x0 x1 = some c) : Con l yX12_rightOf (xws yX12_rightOf cX12_rightOf 2 (some .long)) rmX12_rightOf [.ref (x0), .int (x1)] G A σ (some (.long c)) σ := by
  refine x_start rfl (Nat.le_of_ble_eq_true rfl) (fun X _ _ _ C hE0 => ?_)
  have hE : ∀ r, c = r → xE1 X (some (.long r)) σ := fun r e => e ▸ hE0
  show V X (0, 0) σ 0 [(0, .ref (x0)), (1, .int (x1))] []
  unfold fX12_rightOf at hf
  refine x_aload_n C dX12_rightOf_0 1 rfl 0 rfl rfl ?_
  obtain ⟨v1, hv1, hf⟩ := x_bind hf
  refine x_getR C dX12_rightOf_1 4 rfl hv1 cl11 rfl w1444 ?_
  refine x_bipush C dX12_rightOf_4 6 rfl 24 (by decide) ?_
  refine x_iload_n C dX12_rightOf_6 7 rfl 1 rfl rfl ?_
  refine x_iadd C dX12_rightOf_7 8 rfl ?_
  obtain ⟨v8, hv8, hf⟩ := x_bind hf
  refine x_laload C dX12_rightOf_8 9 rfl hv8 ?_
  exact x_lret C (hE _ (Option.some.inj hf).symm) dX12_rightOf_9
