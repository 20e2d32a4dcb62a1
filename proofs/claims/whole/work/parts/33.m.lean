/-! methods: X8_stepCode X8_stepsOf -/
theorem dX8_stepCode_0 : decode cX8_stepCode 0 = .ok (.iconst 0, 1) := by decide +kernel
theorem dX8_stepCode_1 : decode cX8_stepCode 1 = .ok (.istore 4, 2) := by decide +kernel
theorem dX8_stepCode_3 : decode cX8_stepCode 3 = .ok (.iconst 0, 1) := by decide +kernel
theorem dX8_stepCode_4 : decode cX8_stepCode 4 = .ok (.istore 5, 2) := by decide +kernel
theorem dX8_stepCode_6 : decode cX8_stepCode 6 = .ok (.iload 5, 2) := by decide +kernel
theorem dX8_stepCode_8 : decode cX8_stepCode 8 = .ok (.lload_n 1, 1) := by decide +kernel
theorem dX8_stepCode_9 : decode cX8_stepCode 9 = .ok (.invokestatic 59, 3) := by decide +kernel
theorem dX8_stepCode_12 : decode cX8_stepCode 12 = .ok (.if_icmp .ge 67, 3) := by decide +kernel
theorem dX8_stepCode_15 : decode cX8_stepCode 15 = .ok (.iconst 0, 1) := by decide +kernel
theorem dX8_stepCode_16 : decode cX8_stepCode 16 = .ok (.istore 6, 2) := by decide +kernel
theorem dX8_stepCode_18 : decode cX8_stepCode 18 = .ok (.iload 6, 2) := by decide +kernel
theorem dX8_stepCode_20 : decode cX8_stepCode 20 = .ok (.aload_n 0, 1) := by decide +kernel
theorem dX8_stepCode_21 : decode cX8_stepCode 21 = .ok (.getfield 15, 3) := by decide +kernel
theorem dX8_stepCode_24 : decode cX8_stepCode 24 = .ok (.if_icmp .ge 49, 3) := by decide +kernel
theorem dX8_stepCode_27 : decode cX8_stepCode 27 = .ok (.lload_n 1, 1) := by decide +kernel
theorem dX8_stepCode_28 : decode cX8_stepCode 28 = .ok (.iload 5, 2) := by decide +kernel
theorem dX8_stepCode_30 : decode cX8_stepCode 30 = .ok (.aload_n 0, 1) := by decide +kernel
theorem dX8_stepCode_31 : decode cX8_stepCode 31 = .ok (.getfield 18, 3) := by decide +kernel
theorem dX8_stepCode_34 : decode cX8_stepCode 34 = .ok (.iload 6, 2) := by decide +kernel
theorem dX8_stepCode_36 : decode cX8_stepCode 36 = .ok (.laload, 1) := by decide +kernel
theorem dX8_stepCode_37 : decode cX8_stepCode 37 = .ok (.aload_n 0, 1) := by decide +kernel
theorem dX8_stepCode_38 : decode cX8_stepCode 38 = .ok (.getfield 22, 3) := by decide +kernel
theorem dX8_stepCode_41 : decode cX8_stepCode 41 = .ok (.iload 6, 2) := by decide +kernel
theorem dX8_stepCode_43 : decode cX8_stepCode 43 = .ok (.laload, 1) := by decide +kernel
theorem dX8_stepCode_44 : decode cX8_stepCode 44 = .ok (.invokestatic 100, 3) := by decide +kernel
theorem dX8_stepCode_47 : decode cX8_stepCode 47 = .ok (.ifCond .eq 20, 3) := by decide +kernel
theorem dX8_stepCode_50 : decode cX8_stepCode 50 = .ok (.iload 4, 2) := by decide +kernel
theorem dX8_stepCode_52 : decode cX8_stepCode 52 = .ok (.iload_n 3, 1) := by decide +kernel
theorem dX8_stepCode_53 : decode cX8_stepCode 53 = .ok (.if_icmp .ne 11, 3) := by decide +kernel
theorem dX8_stepCode_56 : decode cX8_stepCode 56 = .ok (.iload 5, 2) := by decide +kernel
theorem dX8_stepCode_58 : decode cX8_stepCode 58 = .ok (.iload 6, 2) := by decide +kernel
theorem dX8_stepCode_60 : decode cX8_stepCode 60 = .ok (.invokestatic 104, 3) := by decide +kernel
theorem dX8_stepCode_63 : decode cX8_stepCode 63 = .ok (.ireturn, 1) := by decide +kernel
theorem dX8_stepCode_64 : decode cX8_stepCode 64 = .ok (.iinc 4 1, 3) := by decide +kernel
theorem dX8_stepCode_67 : decode cX8_stepCode 67 = .ok (.iinc 6 1, 3) := by decide +kernel
theorem dX8_stepCode_70 : decode cX8_stepCode 70 = .ok (.goto (-52), 3) := by decide +kernel
theorem dX8_stepCode_73 : decode cX8_stepCode 73 = .ok (.iinc 5 1, 3) := by decide +kernel
theorem dX8_stepCode_76 : decode cX8_stepCode 76 = .ok (.goto (-70), 3) := by decide +kernel
theorem dX8_stepCode_79 : decode cX8_stepCode 79 = .ok (.iconst (-1), 1) := by decide +kernel
theorem dX8_stepCode_80 : decode cX8_stepCode 80 = .ok (.ireturn, 1) := by decide +kernel
abbrev rmX8_stepCode : Room := { frames := 1, cells := 0, slots := 0, locals := 29 }
noncomputable def fLX8_stepCode_18 (σ : St) (x0 : Nat) (x1 : Int64) (x3 : Int32) (x5 : Int32) (a : Int32 × Int32) : Option ((Int32 × Int32) ⊕ ((Int32) ⊕ (Int32))) :=
(gI σ x0 8 1).bind fun v21 =>
if v21 ≤ a.2 then
(some (Sum.inr (Sum.inr a.1)))
else
((gR σ x0 8 2).bind fun v31 =>
(aL σ v31 a.2).bind fun v36 =>
(gR σ x0 8 3).bind fun v38 =>
(aL σ v38 a.2).bind fun v43 =>
(fX10_fits x1 x5 v36 v43).bind fun w44 =>
if w44 = 0 then
(xlet (a.2 + 1) fun v67 =>
some (Sum.inl (a.1, v67)))
else
(if a.1 = x3 then
(some (Sum.inr (Sum.inl a.2)))
else
(xlet (a.1 + 1) fun v64 =>
xlet (a.2 + 1) fun v67 =>
some (Sum.inl (v64, v67)))))
set_option maxHeartbeats 4000000 in
set_option maxRecDepth 100000 in
theorem lpX8_stepCode_18 {X : xX} {σ : St} {x0 : Nat} {x1 : Int64} {x3 : Int32} {x5 : Int32}  {a0 : Int32 × Int32} {b : (Int32) ⊕ (Int32)} (C : Ok X cX8_stepCode 7 RX8 rmX8_stepCode (some .int)) (hb : iterP (fLX8_stepCode_18 σ x0 x1 x3 x5) a0 = some b) (hy0 : ∀ s, b = (Sum.inl s) → V X (0, 0) σ 56 [(5, .int (x5)), (6, .int (s))] []) (hy1 : ∀ s, b = (Sum.inr s) → V X (0, 0) σ 73 [(0, .ref (x0)), (1, .long (x1)), (3, .int (x3)), (4, .int (s)), (5, .int (x5))] []) : V X (0, 0) σ 18 [(0, .ref (x0)), (1, .long (x1)), (3, .int (x3)), (4, .int (a0.1)), (5, .int (x5)), (6, .int (a0.2))] [] := by
  obtain ⟨n, hn⟩ := iterP_some hb
  refine x_loop (P := fun a => V X (0, 0) σ 18 [(0, .ref (x0)), (1, .long (x1)), (3, .int (x3)), (4, .int (a.1)), (5, .int (x5)), (6, .int (a.2))] []) ?_ n a0 hn
  intro a c hf hK hxx
  have hx0 : ∀ s, c = Sum.inr (Sum.inl s) → V X (0, 0) σ 56 [(5, .int (x5)), (6, .int (s))] [] := fun s e => hy0 s (hxx _ e).symm
  have hx1 : ∀ s, c = Sum.inr (Sum.inr s) → V X (0, 0) σ 73 [(0, .ref (x0)), (1, .long (x1)), (3, .int (x3)), (4, .int (s)), (5, .int (x5))] [] := fun s e => hy1 s (hxx _ e).symm
  unfold fLX8_stepCode_18 at hf
  refine x_iload C dX8_stepCode_18 20 rfl 5 rfl ?_
  refine x_aload_n C dX8_stepCode_20 21 rfl 0 rfl rfl ?_
  obtain ⟨v21, hv21, hf⟩ := x_bind hf
  refine x_getI C dX8_stepCode_21 24 rfl hv21 cl8 rfl w182 ?_
  refine x_icmp_ge C dX8_stepCode_24 73 (by decide) 27 rfl (fun hc => ?_) (fun hc => ?_)
  · have hf := (if_pos hc).symm.trans hf
    refine x_lv [0, 1, 2, 3, 4] (lv' := [(0, .ref (x0)), (1, .long (x1)), (3, .int (x3)), (4, .int (a.1)), (5, .int (x5))]) rfl ?_
    exact hx1 _ (Option.some.inj hf).symm
  · have hf := (if_neg hc).symm.trans hf
    refine x_lload_n C dX8_stepCode_27 28 rfl 1 rfl rfl ?_
    refine x_iload C dX8_stepCode_28 30 rfl 4 rfl ?_
    refine x_aload_n C dX8_stepCode_30 31 rfl 0 rfl rfl ?_
    obtain ⟨v31, hv31, hf⟩ := x_bind hf
    refine x_getR C dX8_stepCode_31 34 rfl hv31 cl8 rfl w189 ?_
    refine x_iload C dX8_stepCode_34 36 rfl 5 rfl ?_
    obtain ⟨v36, hv36, hf⟩ := x_bind hf
    refine x_laload C dX8_stepCode_36 37 rfl hv36 ?_
    refine x_aload_n C dX8_stepCode_37 38 rfl 0 rfl rfl ?_
    obtain ⟨v38, hv38, hf⟩ := x_bind hf
    refine x_getR C dX8_stepCode_38 41 rfl hv38 cl8 rfl w196 ?_
    refine x_iload C dX8_stepCode_41 43 rfl 5 rfl ?_
    obtain ⟨v43, hv43, hf⟩ := x_bind hf
    refine x_laload C dX8_stepCode_43 44 rfl hv43 ?_
    obtain ⟨w44, hw44, hf⟩ := x_bind hf
    refine x_callSi C dX8_stepCode_44 47 rfl (cX10_fitsc hw44) kX10_fits ksX10_fits w1143 ⟨rfl, rfl⟩ ⟨Nat.le_of_ble_eq_true rfl, Nat.le_of_ble_eq_true rfl⟩ ⟨Nat.zero_le _, Nat.zero_le _⟩ rfl rfl (Nat.le_of_ble_eq_true rfl) ?_
    refine x_if_eq C dX8_stepCode_47 67 (by decide) 50 rfl (fun hc => ?_) (fun hc => ?_)
    · have hf := (if_pos hc).symm.trans hf
      obtain ⟨v67, ev67, hf⟩ := xlet_some hf
      refine x_iinc C dX8_stepCode_67 70 rfl 5 rfl v67 ev67 rfl [(6, .int (v67)), (0, .ref (x0)), (1, .long (x1)), (3, .int (x3)), (4, .int (a.1)), (5, .int (x5))] rfl ?_
      refine x_goto C dX8_stepCode_70 18 (by decide) ?_
      refine x_lv [1, 2, 3, 4, 5, 0] (lv' := [(0, .ref (x0)), (1, .long (x1)), (3, .int (x3)), (4, .int (a.1)), (5, .int (x5)), (6, .int (v67))]) rfl ?_
      exact hK _ (Option.some.inj hf).symm
    · have hf := (if_neg hc).symm.trans hf
      refine x_iload C dX8_stepCode_50 52 rfl 3 rfl ?_
      refine x_iload_n C dX8_stepCode_52 53 rfl 2 rfl rfl ?_
      refine x_icmp_ne C dX8_stepCode_53 64 (by decide) 56 rfl (fun hc => ?_) (fun hc => ?_)
      · have hf := (if_neg hc).symm.trans hf
        obtain ⟨v64, ev64, hf⟩ := xlet_some hf
        refine x_iinc C dX8_stepCode_64 67 rfl 3 rfl v64 ev64 rfl [(4, .int (v64)), (0, .ref (x0)), (1, .long (x1)), (3, .int (x3)), (5, .int (x5)), (6, .int (a.2))] rfl ?_
        obtain ⟨v67, ev67, hf⟩ := xlet_some hf
        refine x_iinc C dX8_stepCode_67 70 rfl 5 rfl v67 ev67 rfl [(6, .int (v67)), (4, .int (v64)), (0, .ref (x0)), (1, .long (x1)), (3, .int (x3)), (5, .int (x5))] rfl ?_
        refine x_goto C dX8_stepCode_70 18 (by decide) ?_
        refine x_lv [2, 3, 4, 1, 5, 0] (lv' := [(0, .ref (x0)), (1, .long (x1)), (3, .int (x3)), (4, .int (v64)), (5, .int (x5)), (6, .int (v67))]) rfl ?_
        exact hK _ (Option.some.inj hf).symm
      · have hf := (if_pos hc).symm.trans hf
        refine x_lv [4, 5] (lv' := [(5, .int (x5)), (6, .int (a.2))]) rfl ?_
        exact hx0 _ (Option.some.inj hf).symm
noncomputable def fLX8_stepCode_6 (σ : St) (x0 : Nat) (x1 : Int64) (x3 : Int32) (a : Int32 × Int32) : Option ((Int32 × Int32) ⊕ ((Int32 × Int32) ⊕ (Unit))) :=
(fX10_length x1).bind fun w9 =>
if w9 ≤ a.2 then
(some (Sum.inr (Sum.inr ())))
else
((iterP (fLX8_stepCode_18 σ x0 x1 x3 a.2) (a.1, 0)).bind fun b18 =>
(match b18 with
| .inl s18 =>
some (Sum.inr (Sum.inl (a.2, s18)))
| .inr s18 =>
xlet (a.2 + 1) fun v73 =>
some (Sum.inl (s18, v73))))
set_option maxHeartbeats 4000000 in
set_option maxRecDepth 100000 in
theorem lpX8_stepCode_6 {X : xX} {σ : St} {x0 : Nat} {x1 : Int64} {x3 : Int32}  {a0 : Int32 × Int32} {b : (Int32 × Int32) ⊕ (Unit)} (C : Ok X cX8_stepCode 7 RX8 rmX8_stepCode (some .int)) (hb : iterP (fLX8_stepCode_6 σ x0 x1 x3) a0 = some b) (hy0 : ∀ s, b = (Sum.inl s) → V X (0, 0) σ 56 [(5, .int (s.1)), (6, .int (s.2))] []) (hy1 : ∀ s, b = (Sum.inr s) → V X (0, 0) σ 79 [] []) : V X (0, 0) σ 6 [(0, .ref (x0)), (1, .long (x1)), (3, .int (x3)), (4, .int (a0.1)), (5, .int (a0.2))] [] := by
  obtain ⟨n, hn⟩ := iterP_some hb
  refine x_loop (P := fun a => V X (0, 0) σ 6 [(0, .ref (x0)), (1, .long (x1)), (3, .int (x3)), (4, .int (a.1)), (5, .int (a.2))] []) ?_ n a0 hn
  intro a c hf hK hxx
  have hx0 : ∀ s, c = Sum.inr (Sum.inl s) → V X (0, 0) σ 56 [(5, .int (s.1)), (6, .int (s.2))] [] := fun s e => hy0 s (hxx _ e).symm
  have hx1 : ∀ s, c = Sum.inr (Sum.inr s) → V X (0, 0) σ 79 [] [] := fun s e => hy1 s (hxx _ e).symm
  unfold fLX8_stepCode_6 at hf
  refine x_iload C dX8_stepCode_6 8 rfl 4 rfl ?_
  refine x_lload_n C dX8_stepCode_8 9 rfl 1 rfl rfl ?_
  obtain ⟨w9, hw9, hf⟩ := x_bind hf
  refine x_callSi C dX8_stepCode_9 12 rfl (cX10_lengthc hw9) kX10_length ksX10_length w608 ⟨rfl, rfl⟩ ⟨Nat.le_of_ble_eq_true rfl, Nat.le_of_ble_eq_true rfl⟩ ⟨Nat.zero_le _, Nat.zero_le _⟩ rfl rfl (Nat.le_of_ble_eq_true rfl) ?_
  refine x_icmp_ge C dX8_stepCode_12 79 (by decide) 15 rfl (fun hc => ?_) (fun hc => ?_)
  · have hf := (if_pos hc).symm.trans hf
    refine x_lv [] (lv' := []) rfl ?_
    exact hx1 _ (Option.some.inj hf).symm
  · have hf := (if_neg hc).symm.trans hf
    refine x_iconst C dX8_stepCode_15 16 rfl 0 (by decide) ?_
    refine x_istore C dX8_stepCode_16 18 rfl rfl [(6, .int (0)), (0, .ref (x0)), (1, .long (x1)), (3, .int (x3)), (4, .int (a.1)), (5, .int (a.2))] rfl ?_
    obtain ⟨b18, hb18, hf⟩ := x_bind hf
    refine x_lv [1, 2, 3, 4, 5, 0] (lv' := [(0, .ref (x0)), (1, .long (x1)), (3, .int (x3)), (4, .int (a.1)), (5, .int (a.2)), (6, .int (0))]) rfl ?_
    refine lpX8_stepCode_18 C hb18 (fun s18 e18 => ?_) (fun s18 e18 => ?_)
    · subst e18
      try dsimp only at hf
      exact hx0 _ (Option.some.inj hf).symm
    · subst e18
      try dsimp only at hf
      obtain ⟨v73, ev73, hf⟩ := xlet_some hf
      refine x_iinc C dX8_stepCode_73 76 rfl 4 rfl v73 ev73 rfl [(5, .int (v73)), (0, .ref (x0)), (1, .long (x1)), (3, .int (x3)), (4, .int (s18))] rfl ?_
      refine x_goto C dX8_stepCode_76 6 (by decide) ?_
      refine x_lv [1, 2, 3, 4, 0] (lv' := [(0, .ref (x0)), (1, .long (x1)), (3, .int (x3)), (4, .int (s18)), (5, .int (v73))]) rfl ?_
      exact hK _ (Option.some.inj hf).symm
noncomputable def fX8_stepCode (σ : St) (x0 : Nat) (x1 : Int64) (x3 : Int32) : Option (Int32) :=
(iterP (fLX8_stepCode_6 σ x0 x1 x3) (0, 0)).bind fun b6 =>
(match b6 with
| .inl s6 =>
(fX8_codeOf s6.1 s6.2).bind fun w60 =>
some w60
| .inr s6 =>
some (-1))
set_option maxHeartbeats 4000000 in
set_option maxRecDepth 100000 in
theorem cX8_stepCodec {l : Launch} {G : xG} {A : Nat → Prop} {σ : St} {x0 : Nat} {x1 : Int64} {x3 : Int32} {c : Int32} (hf : fX8_stepCode σ x0 x1 x3 = some c) : Con l yX8_stepCode (xws yX8_stepCode cX8_stepCode 7 (some .int)) rmX8_stepCode [.ref (x0), .long (x1), .int (x3)] G A σ (some (.int c)) σ := by
  refine x_start rfl (Nat.le_of_ble_eq_true rfl) (fun X _ _ _ C hE0 => ?_)
  have hE : ∀ r, c = r → xE1 X (some (.int r)) σ := fun r e => e ▸ hE0
  show V X (0, 0) σ 0 [(0, .ref (x0)), (1, .long (x1)), (3, .int (x3))] []
  unfold fX8_stepCode at hf
  refine x_iconst C dX8_stepCode_0 1 rfl 0 (by decide) ?_
  refine x_istore C dX8_stepCode_1 3 rfl rfl [(4, .int (0)), (0, .ref (x0)), (1, .long (x1)), (3, .int (x3))] rfl ?_
  refine x_iconst C dX8_stepCode_3 4 rfl 0 (by decide) ?_
  refine x_istore C dX8_stepCode_4 6 rfl rfl [(5, .int (0)), (4, .int (0)), (0, .ref (x0)), (1, .long (x1)), (3, .int (x3))] rfl ?_
  obtain ⟨b6, hb6, hf⟩ := x_bind hf
  refine x_lv [2, 3, 4, 1, 0] (lv' := [(0, .ref (x0)), (1, .long (x1)), (3, .int (x3)), (4, .int (0)), (5, .int (0))]) rfl ?_
  refine lpX8_stepCode_6 C hb6 (fun s6 e6 => ?_) (fun s6 e6 => ?_)
  · subst e6
    try dsimp only at hf
    refine x_iload C dX8_stepCode_56 58 rfl 0 rfl ?_
    refine x_iload C dX8_stepCode_58 60 rfl 1 rfl ?_
    obtain ⟨w60, hw60, hf⟩ := x_bind hf
    refine x_callSi C dX8_stepCode_60 63 rfl (cX8_codeOfc hw60) kX8_codeOf ksX8_codeOf w1148 ⟨rfl, rfl⟩ ⟨Nat.le_of_ble_eq_true rfl, Nat.le_of_ble_eq_true rfl⟩ ⟨Nat.zero_le _, Nat.zero_le _⟩ rfl rfl (Nat.le_of_ble_eq_true rfl) ?_
    exact x_iret C (hE _ (Option.some.inj hf).symm) dX8_stepCode_63
  · subst e6
    try dsimp only at hf
    refine x_iconst C dX8_stepCode_79 80 rfl (-1) (by decide) ?_
    exact x_iret C (hE _ (Option.some.inj hf).symm) dX8_stepCode_80
theorem dX8_stepsOf_0 : decode cX8_stepsOf 0 = .ok (.iconst 0, 1) := by decide +kernel
theorem dX8_stepsOf_1 : decode cX8_stepsOf 1 = .ok (.istore_n 3, 1) := by decide +kernel
theorem dX8_stepsOf_2 : decode cX8_stepsOf 2 = .ok (.iconst 0, 1) := by decide +kernel
theorem dX8_stepsOf_3 : decode cX8_stepsOf 3 = .ok (.istore 4, 2) := by decide +kernel
theorem dX8_stepsOf_5 : decode cX8_stepsOf 5 = .ok (.iload 4, 2) := by decide +kernel
theorem dX8_stepsOf_7 : decode cX8_stepsOf 7 = .ok (.lload_n 1, 1) := by decide +kernel
theorem dX8_stepsOf_8 : decode cX8_stepsOf 8 = .ok (.invokestatic 59, 3) := by decide +kernel
theorem dX8_stepsOf_11 : decode cX8_stepsOf 11 = .ok (.if_icmp .ge 53, 3) := by decide +kernel
theorem dX8_stepsOf_14 : decode cX8_stepsOf 14 = .ok (.iconst 0, 1) := by decide +kernel
theorem dX8_stepsOf_15 : decode cX8_stepsOf 15 = .ok (.istore 5, 2) := by decide +kernel
theorem dX8_stepsOf_17 : decode cX8_stepsOf 17 = .ok (.iload 5, 2) := by decide +kernel
theorem dX8_stepsOf_19 : decode cX8_stepsOf 19 = .ok (.aload_n 0, 1) := by decide +kernel
theorem dX8_stepsOf_20 : decode cX8_stepsOf 20 = .ok (.getfield 15, 3) := by decide +kernel
theorem dX8_stepsOf_23 : decode cX8_stepsOf 23 = .ok (.if_icmp .ge 35, 3) := by decide +kernel
theorem dX8_stepsOf_26 : decode cX8_stepsOf 26 = .ok (.lload_n 1, 1) := by decide +kernel
theorem dX8_stepsOf_27 : decode cX8_stepsOf 27 = .ok (.iload 4, 2) := by decide +kernel
theorem dX8_stepsOf_29 : decode cX8_stepsOf 29 = .ok (.aload_n 0, 1) := by decide +kernel
theorem dX8_stepsOf_30 : decode cX8_stepsOf 30 = .ok (.getfield 18, 3) := by decide +kernel
theorem dX8_stepsOf_33 : decode cX8_stepsOf 33 = .ok (.iload 5, 2) := by decide +kernel
theorem dX8_stepsOf_35 : decode cX8_stepsOf 35 = .ok (.laload, 1) := by decide +kernel
theorem dX8_stepsOf_36 : decode cX8_stepsOf 36 = .ok (.aload_n 0, 1) := by decide +kernel
theorem dX8_stepsOf_37 : decode cX8_stepsOf 37 = .ok (.getfield 22, 3) := by decide +kernel
theorem dX8_stepsOf_40 : decode cX8_stepsOf 40 = .ok (.iload 5, 2) := by decide +kernel
theorem dX8_stepsOf_42 : decode cX8_stepsOf 42 = .ok (.laload, 1) := by decide +kernel
theorem dX8_stepsOf_43 : decode cX8_stepsOf 43 = .ok (.invokestatic 100, 3) := by decide +kernel
theorem dX8_stepsOf_46 : decode cX8_stepsOf 46 = .ok (.ifCond .eq 6, 3) := by decide +kernel
theorem dX8_stepsOf_49 : decode cX8_stepsOf 49 = .ok (.iinc 3 1, 3) := by decide +kernel
theorem dX8_stepsOf_52 : decode cX8_stepsOf 52 = .ok (.iinc 5 1, 3) := by decide +kernel
theorem dX8_stepsOf_55 : decode cX8_stepsOf 55 = .ok (.goto (-38), 3) := by decide +kernel
theorem dX8_stepsOf_58 : decode cX8_stepsOf 58 = .ok (.iinc 4 1, 3) := by decide +kernel
theorem dX8_stepsOf_61 : decode cX8_stepsOf 61 = .ok (.goto (-56), 3) := by decide +kernel
theorem dX8_stepsOf_64 : decode cX8_stepsOf 64 = .ok (.iload_n 3, 1) := by decide +kernel
theorem dX8_stepsOf_65 : decode cX8_stepsOf 65 = .ok (.ireturn, 1) := by decide +kernel
abbrev rmX8_stepsOf : Room := { frames := 1, cells := 0, slots := 0, locals := 29 }
noncomputable def fLX8_stepsOf_17 (σ : St) (x0 : Nat) (x1 : Int64) (x4 : Int32) (a : Int32 × Int32) : Option ((Int32 × Int32) ⊕ (Int32)) :=
(gI σ x0 8 1).bind fun v20 =>
if v20 ≤ a.2 then
(some (Sum.inr a.1))
else
((gR σ x0 8 2).bind fun v30 =>
(aL σ v30 a.2).bind fun v35 =>
(gR σ x0 8 3).bind fun v37 =>
(aL σ v37 a.2).bind fun v42 =>
(fX10_fits x1 x4 v35 v42).bind fun w43 =>
if w43 = 0 then
(xlet (a.2 + 1) fun v52 =>
some (Sum.inl (a.1, v52)))
else
(xlet (a.1 + 1) fun v49 =>
xlet (a.2 + 1) fun v52 =>
some (Sum.inl (v49, v52))))
set_option maxHeartbeats 4000000 in
set_option maxRecDepth 100000 in
theorem lpX8_stepsOf_17 {X : xX} {σ : St} {x0 : Nat} {x1 : Int64} {x4 : Int32}  {a0 : Int32 × Int32} {b : Int32} (C : Ok X cX8_stepsOf 6 RX8 rmX8_stepsOf (some .int)) (hb : iterP (fLX8_stepsOf_17 σ x0 x1 x4) a0 = some b) (hy0 : ∀ s, b = s → V X (0, 0) σ 58 [(0, .ref (x0)), (1, .long (x1)), (3, .int (s)), (4, .int (x4))] []) : V X (0, 0) σ 17 [(0, .ref (x0)), (1, .long (x1)), (3, .int (a0.1)), (4, .int (x4)), (5, .int (a0.2))] [] := by
  obtain ⟨n, hn⟩ := iterP_some hb
  refine x_loop (P := fun a => V X (0, 0) σ 17 [(0, .ref (x0)), (1, .long (x1)), (3, .int (a.1)), (4, .int (x4)), (5, .int (a.2))] []) ?_ n a0 hn
  intro a c hf hK hxx
  have hx0 : ∀ s, c = Sum.inr s → V X (0, 0) σ 58 [(0, .ref (x0)), (1, .long (x1)), (3, .int (s)), (4, .int (x4))] [] := fun s e => hy0 s (hxx _ e).symm
  unfold fLX8_stepsOf_17 at hf
  refine x_iload C dX8_stepsOf_17 19 rfl 4 rfl ?_
  refine x_aload_n C dX8_stepsOf_19 20 rfl 0 rfl rfl ?_
  obtain ⟨v20, hv20, hf⟩ := x_bind hf
  refine x_getI C dX8_stepsOf_20 23 rfl hv20 cl8 rfl w182 ?_
  refine x_icmp_ge C dX8_stepsOf_23 58 (by decide) 26 rfl (fun hc => ?_) (fun hc => ?_)
  · have hf := (if_pos hc).symm.trans hf
    refine x_lv [0, 1, 2, 3] (lv' := [(0, .ref (x0)), (1, .long (x1)), (3, .int (a.1)), (4, .int (x4))]) rfl ?_
    exact hx0 _ (Option.some.inj hf).symm
  · have hf := (if_neg hc).symm.trans hf
    refine x_lload_n C dX8_stepsOf_26 27 rfl 1 rfl rfl ?_
    refine x_iload C dX8_stepsOf_27 29 rfl 3 rfl ?_
    refine x_aload_n C dX8_stepsOf_29 30 rfl 0 rfl rfl ?_
    obtain ⟨v30, hv30, hf⟩ := x_bind hf
    refine x_getR C dX8_stepsOf_30 33 rfl hv30 cl8 rfl w189 ?_
    refine x_iload C dX8_stepsOf_33 35 rfl 4 rfl ?_
    obtain ⟨v35, hv35, hf⟩ := x_bind hf
    refine x_laload C dX8_stepsOf_35 36 rfl hv35 ?_
    refine x_aload_n C dX8_stepsOf_36 37 rfl 0 rfl rfl ?_
    obtain ⟨v37, hv37, hf⟩ := x_bind hf
    refine x_getR C dX8_stepsOf_37 40 rfl hv37 cl8 rfl w196 ?_
    refine x_iload C dX8_stepsOf_40 42 rfl 4 rfl ?_
    obtain ⟨v42, hv42, hf⟩ := x_bind hf
    refine x_laload C dX8_stepsOf_42 43 rfl hv42 ?_
    obtain ⟨w43, hw43, hf⟩ := x_bind hf
    refine x_callSi C dX8_stepsOf_43 46 rfl (cX10_fitsc hw43) kX10_fits ksX10_fits w1143 ⟨rfl, rfl⟩ ⟨Nat.le_of_ble_eq_true rfl, Nat.le_of_ble_eq_true rfl⟩ ⟨Nat.zero_le _, Nat.zero_le _⟩ rfl rfl (Nat.le_of_ble_eq_true rfl) ?_
    refine x_if_eq C dX8_stepsOf_46 52 (by decide) 49 rfl (fun hc => ?_) (fun hc => ?_)
    · have hf := (if_pos hc).symm.trans hf
      obtain ⟨v52, ev52, hf⟩ := xlet_some hf
      refine x_iinc C dX8_stepsOf_52 55 rfl 4 rfl v52 ev52 rfl [(5, .int (v52)), (0, .ref (x0)), (1, .long (x1)), (3, .int (a.1)), (4, .int (x4))] rfl ?_
      refine x_goto C dX8_stepsOf_55 17 (by decide) ?_
      refine x_lv [1, 2, 3, 4, 0] (lv' := [(0, .ref (x0)), (1, .long (x1)), (3, .int (a.1)), (4, .int (x4)), (5, .int (v52))]) rfl ?_
      exact hK _ (Option.some.inj hf).symm
    · have hf := (if_neg hc).symm.trans hf
      obtain ⟨v49, ev49, hf⟩ := xlet_some hf
      refine x_iinc C dX8_stepsOf_49 52 rfl 2 rfl v49 ev49 rfl [(3, .int (v49)), (0, .ref (x0)), (1, .long (x1)), (4, .int (x4)), (5, .int (a.2))] rfl ?_
      obtain ⟨v52, ev52, hf⟩ := xlet_some hf
      refine x_iinc C dX8_stepsOf_52 55 rfl 4 rfl v52 ev52 rfl [(5, .int (v52)), (3, .int (v49)), (0, .ref (x0)), (1, .long (x1)), (4, .int (x4))] rfl ?_
      refine x_goto C dX8_stepsOf_55 17 (by decide) ?_
      refine x_lv [2, 3, 1, 4, 0] (lv' := [(0, .ref (x0)), (1, .long (x1)), (3, .int (v49)), (4, .int (x4)), (5, .int (v52))]) rfl ?_
      exact hK _ (Option.some.inj hf).symm
noncomputable def fLX8_stepsOf_5 (σ : St) (x0 : Nat) (x1 : Int64) (a : Int32 × Int32) : Option ((Int32 × Int32) ⊕ (Int32)) :=
(fX10_length x1).bind fun w8 =>
if w8 ≤ a.2 then
(some (Sum.inr a.1))
else
((iterP (fLX8_stepsOf_17 σ x0 x1 a.2) (a.1, 0)).bind fun b17 =>
xlet (a.2 + 1) fun v58 =>
some (Sum.inl (b17, v58)))
set_option maxHeartbeats 4000000 in
set_option maxRecDepth 100000 in
theorem lpX8_stepsOf_5 {X : xX} {σ : St} {x0 : Nat} {x1 : Int64}  {a0 : Int32 × Int32} {b : Int32} (C : Ok X cX8_stepsOf 6 RX8 rmX8_stepsOf (some .int)) (hb : iterP (fLX8_stepsOf_5 σ x0 x1) a0 = some b) (hy0 : ∀ s, b = s → V X (0, 0) σ 64 [(3, .int (s))] []) : V X (0, 0) σ 5 [(0, .ref (x0)), (1, .long (x1)), (3, .int (a0.1)), (4, .int (a0.2))] [] := by
  obtain ⟨n, hn⟩ := iterP_some hb
  refine x_loop (P := fun a => V X (0, 0) σ 5 [(0, .ref (x0)), (1, .long (x1)), (3, .int (a.1)), (4, .int (a.2))] []) ?_ n a0 hn
  intro a c hf hK hxx
  have hx0 : ∀ s, c = Sum.inr s → V X (0, 0) σ 64 [(3, .int (s))] [] := fun s e => hy0 s (hxx _ e).symm
  unfold fLX8_stepsOf_5 at hf
  refine x_iload C dX8_stepsOf_5 7 rfl 3 rfl ?_
  refine x_lload_n C dX8_stepsOf_7 8 rfl 1 rfl rfl ?_
  obtain ⟨w8, hw8, hf⟩ := x_bind hf
  refine x_callSi C dX8_stepsOf_8 11 rfl (cX10_lengthc hw8) kX10_length ksX10_length w608 ⟨rfl, rfl⟩ ⟨Nat.le_of_ble_eq_true rfl, Nat.le_of_ble_eq_true rfl⟩ ⟨Nat.zero_le _, Nat.zero_le _⟩ rfl rfl (Nat.le_of_ble_eq_true rfl) ?_
  refine x_icmp_ge C dX8_stepsOf_11 64 (by decide) 14 rfl (fun hc => ?_) (fun hc => ?_)
  · have hf := (if_pos hc).symm.trans hf
    refine x_lv [2] (lv' := [(3, .int (a.1))]) rfl ?_
    exact hx0 _ (Option.some.inj hf).symm
  · have hf := (if_neg hc).symm.trans hf
    refine x_iconst C dX8_stepsOf_14 15 rfl 0 (by decide) ?_
    refine x_istore C dX8_stepsOf_15 17 rfl rfl [(5, .int (0)), (0, .ref (x0)), (1, .long (x1)), (3, .int (a.1)), (4, .int (a.2))] rfl ?_
    obtain ⟨b17, hb17, hf⟩ := x_bind hf
    refine x_lv [1, 2, 3, 4, 0] (lv' := [(0, .ref (x0)), (1, .long (x1)), (3, .int (a.1)), (4, .int (a.2)), (5, .int (0))]) rfl ?_
    refine lpX8_stepsOf_17 C hb17 (fun s17 e17 => ?_)
    subst e17
    obtain ⟨v58, ev58, hf⟩ := xlet_some hf
    refine x_iinc C dX8_stepsOf_58 61 rfl 3 rfl v58 ev58 rfl [(4, .int (v58)), (0, .ref (x0)), (1, .long (x1)), (3, .int (b17))] rfl ?_
    refine x_goto C dX8_stepsOf_61 5 (by decide) ?_
    refine x_lv [1, 2, 3, 0] (lv' := [(0, .ref (x0)), (1, .long (x1)), (3, .int (b17)), (4, .int (v58))]) rfl ?_
    exact hK _ (Option.some.inj hf).symm
noncomputable def fX8_stepsOf (σ : St) (x0 : Nat) (x1 : Int64) : Option (Int32) :=
(iterP (fLX8_stepsOf_5 σ x0 x1) (0, 0)).bind fun b5 =>
some b5
set_option maxHeartbeats 4000000 in
set_option maxRecDepth 100000 in
theorem cX8_stepsOfc {l : Launch} {G : xG} {A : Nat → Prop} {σ : St} {x0 : Nat} {x1 : Int64} {c : Int32} (hf : fX8_stepsOf σ x0 x1 = some c) : Con l yX8_stepsOf (xws yX8_stepsOf cX8_stepsOf 6 (some .int)) rmX8_stepsOf [.ref (x0), .long (x1)] G A σ (some (.int c)) σ := by
  refine x_start rfl (Nat.le_of_ble_eq_true rfl) (fun X _ _ _ C hE0 => ?_)
  have hE : ∀ r, c = r → xE1 X (some (.int r)) σ := fun r e => e ▸ hE0
  show V X (0, 0) σ 0 [(0, .ref (x0)), (1, .long (x1))] []
  unfold fX8_stepsOf at hf
  refine x_iconst C dX8_stepsOf_0 1 rfl 0 (by decide) ?_
  refine x_istore_n C dX8_stepsOf_1 2 rfl rfl rfl [(3, .int (0)), (0, .ref (x0)), (1, .long (x1))] rfl ?_
  refine x_iconst C dX8_stepsOf_2 3 rfl 0 (by decide) ?_
  refine x_istore C dX8_stepsOf_3 5 rfl rfl [(4, .int (0)), (3, .int (0)), (0, .ref (x0)), (1, .long (x1))] rfl ?_
  obtain ⟨b5, hb5, hf⟩ := x_bind hf
  refine x_lv [2, 3, 1, 0] (lv' := [(0, .ref (x0)), (1, .long (x1)), (3, .int (0)), (4, .int (0))]) rfl ?_
  refine lpX8_stepsOf_5 C hb5 (fun s5 e5 => ?_)
  subst e5
  refine x_iload_n C dX8_stepsOf_64 65 rfl 0 rfl rfl ?_
  exact x_iret C (hE _ (Option.some.inj hf).symm) dX8_stepsOf_65
