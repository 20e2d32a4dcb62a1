/-! methods: X5_gatherOf X5_gather X5_isClosed X5_leastOpen X5_openOnes X6_slotOf X6_add X6_find X6_follow -/
theorem dX5_gatherOf_0 : decode cX5_gatherOf 0 = .ok (.aload_n 0, 1) := by decide +kernel
theorem dX5_gatherOf_1 : decode cX5_gatherOf 1 = .ok (.getfield 30, 3) := by decide +kernel
theorem dX5_gatherOf_4 : decode cX5_gatherOf 4 = .ok (.getfield 46, 3) := by decide +kernel
theorem dX5_gatherOf_7 : decode cX5_gatherOf 7 = .ok (.iload_n 1, 1) := by decide +kernel
theorem dX5_gatherOf_8 : decode cX5_gatherOf 8 = .ok (.laload, 1) := by decide +kernel
theorem dX5_gatherOf_9 : decode cX5_gatherOf 9 = .ok (.invokestatic 49, 3) := by decide +kernel
theorem dX5_gatherOf_12 : decode cX5_gatherOf 12 = .ok (.istore_n 3, 1) := by decide +kernel
theorem dX5_gatherOf_13 : decode cX5_gatherOf 13 = .ok (.iload_n 1, 1) := by decide +kernel
theorem dX5_gatherOf_14 : decode cX5_gatherOf 14 = .ok (.iload_n 2, 1) := by decide +kernel
theorem dX5_gatherOf_15 : decode cX5_gatherOf 15 = .ok (.if_icmp .ge 7, 3) := by decide +kernel
theorem dX5_gatherOf_18 : decode cX5_gatherOf 18 = .ok (.iconst 0, 1) := by decide +kernel
theorem dX5_gatherOf_19 : decode cX5_gatherOf 19 = .ok (.goto 4, 3) := by decide +kernel
theorem dX5_gatherOf_22 : decode cX5_gatherOf 22 = .ok (.iconst 1, 1) := by decide +kernel
theorem dX5_gatherOf_23 : decode cX5_gatherOf 23 = .ok (.istore 4, 2) := by decide +kernel
theorem dX5_gatherOf_25 : decode cX5_gatherOf 25 = .ok (.iload 4, 2) := by decide +kernel
theorem dX5_gatherOf_27 : decode cX5_gatherOf 27 = .ok (.iload_n 3, 1) := by decide +kernel
theorem dX5_gatherOf_28 : decode cX5_gatherOf 28 = .ok (.if_icmp .ge 90, 3) := by decide +kernel
theorem dX5_gatherOf_31 : decode cX5_gatherOf 31 = .ok (.aload_n 0, 1) := by decide +kernel
theorem dX5_gatherOf_32 : decode cX5_gatherOf 32 = .ok (.getfield 23, 3) := by decide +kernel
theorem dX5_gatherOf_35 : decode cX5_gatherOf 35 = .ok (.sipush 2304, 3) := by decide +kernel
theorem dX5_gatherOf_38 : decode cX5_gatherOf 38 = .ok (.if_icmp .ge 80, 3) := by decide +kernel
theorem dX5_gatherOf_41 : decode cX5_gatherOf 41 = .ok (.aload_n 0, 1) := by decide +kernel
theorem dX5_gatherOf_42 : decode cX5_gatherOf 42 = .ok (.iload_n 1, 1) := by decide +kernel
theorem dX5_gatherOf_43 : decode cX5_gatherOf 43 = .ok (.iload_n 2, 1) := by decide +kernel
theorem dX5_gatherOf_44 : decode cX5_gatherOf 44 = .ok (.iload 4, 2) := by decide +kernel
theorem dX5_gatherOf_46 : decode cX5_gatherOf 46 = .ok (.invokevirtual 55, 3) := by decide +kernel
theorem dX5_gatherOf_49 : decode cX5_gatherOf 49 = .ok (.lstore 5, 2) := by decide +kernel
theorem dX5_gatherOf_51 : decode cX5_gatherOf 51 = .ok (.lload 5, 2) := by decide +kernel
theorem dX5_gatherOf_53 : decode cX5_gatherOf 53 = .ok (.ldc2_w 59, 3) := by decide +kernel
theorem dX5_gatherOf_56 : decode cX5_gatherOf 56 = .ok (.lcmp, 1) := by decide +kernel
theorem dX5_gatherOf_57 : decode cX5_gatherOf 57 = .ok (.ifCond .eq 55, 3) := by decide +kernel
theorem dX5_gatherOf_60 : decode cX5_gatherOf 60 = .ok (.aload_n 0, 1) := by decide +kernel
theorem dX5_gatherOf_61 : decode cX5_gatherOf 61 = .ok (.getfield 11, 3) := by decide +kernel
theorem dX5_gatherOf_64 : decode cX5_gatherOf 64 = .ok (.aload_n 0, 1) := by decide +kernel
theorem dX5_gatherOf_65 : decode cX5_gatherOf 65 = .ok (.getfield 23, 3) := by decide +kernel
theorem dX5_gatherOf_68 : decode cX5_gatherOf 68 = .ok (.lload 5, 2) := by decide +kernel
theorem dX5_gatherOf_70 : decode cX5_gatherOf 70 = .ok (.lastore, 1) := by decide +kernel
theorem dX5_gatherOf_71 : decode cX5_gatherOf 71 = .ok (.aload_n 0, 1) := by decide +kernel
theorem dX5_gatherOf_72 : decode cX5_gatherOf 72 = .ok (.getfield 15, 3) := by decide +kernel
theorem dX5_gatherOf_75 : decode cX5_gatherOf 75 = .ok (.aload_n 0, 1) := by decide +kernel
theorem dX5_gatherOf_76 : decode cX5_gatherOf 76 = .ok (.getfield 23, 3) := by decide +kernel
theorem dX5_gatherOf_79 : decode cX5_gatherOf 79 = .ok (.iload_n 1, 1) := by decide +kernel
theorem dX5_gatherOf_80 : decode cX5_gatherOf 80 = .ok (.bipush 16, 2) := by decide +kernel
theorem dX5_gatherOf_82 : decode cX5_gatherOf 82 = .ok (.imul, 1) := by decide +kernel
theorem dX5_gatherOf_83 : decode cX5_gatherOf 83 = .ok (.iload_n 2, 1) := by decide +kernel
theorem dX5_gatherOf_84 : decode cX5_gatherOf 84 = .ok (.iadd, 1) := by decide +kernel
theorem dX5_gatherOf_85 : decode cX5_gatherOf 85 = .ok (.bipush 16, 2) := by decide +kernel
theorem dX5_gatherOf_87 : decode cX5_gatherOf 87 = .ok (.imul, 1) := by decide +kernel
theorem dX5_gatherOf_88 : decode cX5_gatherOf 88 = .ok (.iload 4, 2) := by decide +kernel
theorem dX5_gatherOf_90 : decode cX5_gatherOf 90 = .ok (.iadd, 1) := by decide +kernel
theorem dX5_gatherOf_91 : decode cX5_gatherOf 91 = .ok (.iastore, 1) := by decide +kernel
theorem dX5_gatherOf_92 : decode cX5_gatherOf 92 = .ok (.aload_n 0, 1) := by decide +kernel
theorem dX5_gatherOf_93 : decode cX5_gatherOf 93 = .ok (.getfield 19, 3) := by decide +kernel
theorem dX5_gatherOf_96 : decode cX5_gatherOf 96 = .ok (.aload_n 0, 1) := by decide +kernel
theorem dX5_gatherOf_97 : decode cX5_gatherOf 97 = .ok (.getfield 23, 3) := by decide +kernel
theorem dX5_gatherOf_100 : decode cX5_gatherOf 100 = .ok (.iconst 0, 1) := by decide +kernel
theorem dX5_gatherOf_101 : decode cX5_gatherOf 101 = .ok (.bastore, 1) := by decide +kernel
theorem dX5_gatherOf_102 : decode cX5_gatherOf 102 = .ok (.aload_n 0, 1) := by decide +kernel
theorem dX5_gatherOf_103 : decode cX5_gatherOf 103 = .ok (.dup, 1) := by decide +kernel
theorem dX5_gatherOf_104 : decode cX5_gatherOf 104 = .ok (.getfield 23, 3) := by decide +kernel
theorem dX5_gatherOf_107 : decode cX5_gatherOf 107 = .ok (.iconst 1, 1) := by decide +kernel
theorem dX5_gatherOf_108 : decode cX5_gatherOf 108 = .ok (.iadd, 1) := by decide +kernel
theorem dX5_gatherOf_109 : decode cX5_gatherOf 109 = .ok (.putfield 23, 3) := by decide +kernel
theorem dX5_gatherOf_112 : decode cX5_gatherOf 112 = .ok (.iinc 4 1, 3) := by decide +kernel
theorem dX5_gatherOf_115 : decode cX5_gatherOf 115 = .ok (.goto (-90), 3) := by decide +kernel
theorem dX5_gatherOf_118 : decode cX5_gatherOf 118 = .ok (.return_, 1) := by decide +kernel
abbrev rmX5_gatherOf : Room := { frames := 2, cells := 0, slots := 0, locals := 91 }
noncomputable def fLX5_gatherOf_25 (x0 : Nat) (x1 : Int32) (x2 : Int32) (x3 : Int32) (a : Int32 × St) : Option ((Int32 × St) ⊕ (St)) :=
if x3 ≤ a.1 then
(some (Sum.inr a.2))
else
((gI a.2 x0 5 5).bind fun v32 =>
if ((2304 : Int32)) ≤ v32 then
(some (Sum.inr a.2))
else
((isO a.2 x0 5).bind fun _ =>
(fX5_laid a.2 x0 x1 x2 a.1).bind fun w46 =>
if (lg_cmp w46 (-1)) = 0 then
(xlet (a.1 + 1) fun v112 =>
some (Sum.inl (v112, a.2)))
else
((gR a.2 x0 5 2).bind fun v61 =>
(gI a.2 x0 5 5).bind fun v65 =>
(sL a.2 v61 v65 w46).bind fun σ70 =>
(gR σ70 x0 5 3).bind fun v72 =>
(gI σ70 x0 5 5).bind fun v76 =>
(sI σ70 v72 v76 ((((x1 * 16) + x2) * 16) + a.1)).bind fun σ91 =>
(gR σ91 x0 5 4).bind fun v93 =>
(gI σ91 x0 5 5).bind fun v97 =>
(sB σ91 v93 v97 0).bind fun σ101 =>
(gI σ101 x0 5 5).bind fun v104 =>
(wrF σ101 x0 5 5 (.int (v104 + 1))).bind fun σ109 =>
xlet (a.1 + 1) fun v112 =>
some (Sum.inl (v112, σ109)))))
set_option maxHeartbeats 4000000 in
set_option maxRecDepth 100000 in
theorem lpX5_gatherOf_25 {X : xX} {x0 : Nat} {x1 : Int32} {x2 : Int32} {x3 : Int32}  {a0 : Int32 × St} {b : St} (C : Ok X cX5_gatherOf 7 RX5 rmX5_gatherOf none) (hb : iterP (fLX5_gatherOf_25 x0 x1 x2 x3) a0 = some b) (hy0 : ∀ s, b = s → V X (0, 0) s 118 [] []) : V X (0, 0) a0.2 25 [(0, .ref (x0)), (1, .int (x1)), (2, .int (x2)), (3, .int (x3)), (4, .int (a0.1))] [] := by
  obtain ⟨n, hn⟩ := iterP_some hb
  refine x_loop (P := fun a => V X (0, 0) a.2 25 [(0, .ref (x0)), (1, .int (x1)), (2, .int (x2)), (3, .int (x3)), (4, .int (a.1))] []) ?_ n a0 hn
  intro a c hf hK hxx
  have hx0 : ∀ s, c = Sum.inr s → V X (0, 0) s 118 [] [] := fun s e => hy0 s (hxx _ e).symm
  unfold fLX5_gatherOf_25 at hf
  refine x_iload C dX5_gatherOf_25 27 rfl 4 rfl ?_
  refine x_iload_n C dX5_gatherOf_27 28 rfl 3 rfl rfl ?_
  refine x_icmp_ge C dX5_gatherOf_28 118 (by decide) 31 rfl (fun hc => ?_) (fun hc => ?_)
  · have hf := (if_pos hc).symm.trans hf
    refine x_lv [] (lv' := []) rfl ?_
    exact hx0 _ (Option.some.inj hf).symm
  · have hf := (if_neg hc).symm.trans hf
    refine x_aload_n C dX5_gatherOf_31 32 rfl 0 rfl rfl ?_
    obtain ⟨v32, hv32, hf⟩ := x_bind hf
    refine x_getI C dX5_gatherOf_32 35 rfl hv32 cl5 rfl w343 ?_
    refine x_sipush C dX5_gatherOf_35 38 rfl 2304 (by decide) ?_
    refine x_icmp_ge C dX5_gatherOf_38 118 (by decide) 41 rfl (fun hc => ?_) (fun hc => ?_)
    · have hf := (if_pos hc).symm.trans hf
      refine x_lv [] (lv' := []) rfl ?_
      exact hx0 _ (Option.some.inj hf).symm
    · have hf := (if_neg hc).symm.trans hf
      refine x_aload_n C dX5_gatherOf_41 42 rfl 0 rfl rfl ?_
      refine x_iload_n C dX5_gatherOf_42 43 rfl 1 rfl rfl ?_
      refine x_iload_n C dX5_gatherOf_43 44 rfl 2 rfl rfl ?_
      refine x_iload C dX5_gatherOf_44 46 rfl 4 rfl ?_
      obtain ⟨o46, ho46, hf⟩ := x_bind hf
      obtain ⟨w46, hw46, hf⟩ := x_bind hf
      refine x_callVl C dX5_gatherOf_46 49 rfl ho46 cl5.1 rfl (cX5_laidc hw46) kX5_laid kvX5_laid w986 ⟨rfl, rfl⟩ ⟨Nat.le_of_ble_eq_true rfl, Nat.le_of_ble_eq_true rfl⟩ ⟨Nat.zero_le _, Nat.zero_le _⟩ rfl rfl (Nat.le_of_ble_eq_true rfl) ?_
      refine x_lstore C dX5_gatherOf_49 51 rfl rfl [(5, .long (w46)), (0, .ref (x0)), (1, .int (x1)), (2, .int (x2)), (3, .int (x3)), (4, .int (a.1))] rfl ?_
      refine x_lload C dX5_gatherOf_51 53 rfl 0 rfl ?_
      refine x_ldc2 C dX5_gatherOf_53 56 rfl w994 ?_
      refine x_lcmp C dX5_gatherOf_56 57 rfl ?_
      refine x_if_eq C dX5_gatherOf_57 112 (by decide) 60 rfl (fun hc => ?_) (fun hc => ?_)
      · have hf := (if_pos hc).symm.trans hf
        obtain ⟨v112, ev112, hf⟩ := xlet_some hf
        refine x_iinc C dX5_gatherOf_112 115 rfl 5 rfl v112 ev112 rfl [(4, .int (v112)), (5, .long (w46)), (0, .ref (x0)), (1, .int (x1)), (2, .int (x2)), (3, .int (x3))] rfl ?_
        refine x_goto C dX5_gatherOf_115 25 (by decide) ?_
        refine x_lv [2, 3, 4, 5, 0] (lv' := [(0, .ref (x0)), (1, .int (x1)), (2, .int (x2)), (3, .int (x3)), (4, .int (v112))]) rfl ?_
        exact hK _ (Option.some.inj hf).symm
      · have hf := (if_neg hc).symm.trans hf
        refine x_aload_n C dX5_gatherOf_60 61 rfl 1 rfl rfl ?_
        obtain ⟨v61, hv61, hf⟩ := x_bind hf
        refine x_getR C dX5_gatherOf_61 64 rfl hv61 cl5 rfl w339 ?_
        refine x_aload_n C dX5_gatherOf_64 65 rfl 1 rfl rfl ?_
        obtain ⟨v65, hv65, hf⟩ := x_bind hf
        refine x_getI C dX5_gatherOf_65 68 rfl hv65 cl5 rfl w343 ?_
        refine x_lload C dX5_gatherOf_68 70 rfl 0 rfl ?_
        obtain ⟨σ70, hσ70, hf⟩ := x_bind hf
        refine x_lastore C dX5_gatherOf_70 71 rfl hσ70 ?_
        refine x_aload_n C dX5_gatherOf_71 72 rfl 1 rfl rfl ?_
        obtain ⟨v72, hv72, hf⟩ := x_bind hf
        refine x_getR C dX5_gatherOf_72 75 rfl hv72 cl5 rfl w341 ?_
        refine x_aload_n C dX5_gatherOf_75 76 rfl 1 rfl rfl ?_
        obtain ⟨v76, hv76, hf⟩ := x_bind hf
        refine x_getI C dX5_gatherOf_76 79 rfl hv76 cl5 rfl w343 ?_
        refine x_iload_n C dX5_gatherOf_79 80 rfl 2 rfl rfl ?_
        refine x_bipush C dX5_gatherOf_80 82 rfl 16 (by decide) ?_
        refine x_imul C dX5_gatherOf_82 83 rfl ?_
        refine x_iload_n C dX5_gatherOf_83 84 rfl 3 rfl rfl ?_
        refine x_iadd C dX5_gatherOf_84 85 rfl ?_
        refine x_bipush C dX5_gatherOf_85 87 rfl 16 (by decide) ?_
        refine x_imul C dX5_gatherOf_87 88 rfl ?_
        refine x_iload C dX5_gatherOf_88 90 rfl 5 rfl ?_
        refine x_iadd C dX5_gatherOf_90 91 rfl ?_
        obtain ⟨σ91, hσ91, hf⟩ := x_bind hf
        refine x_iastore C dX5_gatherOf_91 92 rfl hσ91 ?_
        refine x_aload_n C dX5_gatherOf_92 93 rfl 1 rfl rfl ?_
        obtain ⟨v93, hv93, hf⟩ := x_bind hf
        refine x_getR C dX5_gatherOf_93 96 rfl hv93 cl5 rfl w342 ?_
        refine x_aload_n C dX5_gatherOf_96 97 rfl 1 rfl rfl ?_
        obtain ⟨v97, hv97, hf⟩ := x_bind hf
        refine x_getI C dX5_gatherOf_97 100 rfl hv97 cl5 rfl w343 ?_
        refine x_iconst C dX5_gatherOf_100 101 rfl 0 (by decide) ?_
        obtain ⟨σ101, hσ101, hf⟩ := x_bind hf
        refine x_bastore C dX5_gatherOf_101 102 rfl hσ101 ?_
        refine x_aload_n C dX5_gatherOf_102 103 rfl 1 rfl rfl ?_
        refine x_dup C dX5_gatherOf_103 104 rfl rfl ?_
        obtain ⟨v104, hv104, hf⟩ := x_bind hf
        refine x_getI C dX5_gatherOf_104 107 rfl hv104 cl5 rfl w343 ?_
        refine x_iconst C dX5_gatherOf_107 108 rfl 1 (by decide) ?_
        refine x_iadd C dX5_gatherOf_108 109 rfl ?_
        obtain ⟨σ109, hσ109, hf⟩ := x_bind hf
        refine x_putX C dX5_gatherOf_109 112 rfl hσ109 cl5 rfl w343 rfl rfl rfl ?_
        obtain ⟨v112, ev112, hf⟩ := xlet_some hf
        refine x_iinc C dX5_gatherOf_112 115 rfl 5 rfl v112 ev112 rfl [(4, .int (v112)), (5, .long (w46)), (0, .ref (x0)), (1, .int (x1)), (2, .int (x2)), (3, .int (x3))] rfl ?_
        refine x_goto C dX5_gatherOf_115 25 (by decide) ?_
        refine x_lv [2, 3, 4, 5, 0] (lv' := [(0, .ref (x0)), (1, .int (x1)), (2, .int (x2)), (3, .int (x3)), (4, .int (v112))]) rfl ?_
        exact hK _ (Option.some.inj hf).symm
noncomputable def fJX5_gatherOf_m_23 (σ : St) (x0 : Nat) (x1 : Int32) (x2 : Int32) (x3 : Int32) (t0 : Int32) : Option (St) :=
(iterP (fLX5_gatherOf_25 x0 x1 x2 x3) (t0, σ)).bind fun b25 =>
some b25
set_option maxHeartbeats 4000000 in
set_option maxRecDepth 100000 in
theorem jnX5_gatherOf_m_23 {X : xX} {σ : St} {x0 : Nat} {x1 : Int32} {x2 : Int32} {x3 : Int32} {t0 : Int32}  {c : St} (C : Ok X cX5_gatherOf 7 RX5 rmX5_gatherOf none) (hf : fJX5_gatherOf_m_23 σ x0 x1 x2 x3 t0 = some c) (hE : ∀ r, c = r → xE1 X none r) : V X (0, 0) σ 23 [(0, .ref (x0)), (1, .int (x1)), (2, .int (x2)), (3, .int (x3))] [.int (t0)] := by
  unfold fJX5_gatherOf_m_23 at hf
  refine x_istore C dX5_gatherOf_23 25 rfl rfl [(4, .int (t0)), (0, .ref (x0)), (1, .int (x1)), (2, .int (x2)), (3, .int (x3))] rfl ?_
  obtain ⟨b25, hb25, hf⟩ := x_bind hf
  refine x_lv [1, 2, 3, 4, 0] (lv' := [(0, .ref (x0)), (1, .int (x1)), (2, .int (x2)), (3, .int (x3)), (4, .int (t0))]) rfl ?_
  refine lpX5_gatherOf_25 C hb25 (fun s25 e25 => ?_)
  subst e25
  exact x_vret C (hE _ (Option.some.inj hf).symm) dX5_gatherOf_118
noncomputable def fX5_gatherOf (σ : St) (x0 : Nat) (x1 : Int32) (x2 : Int32) : Option (St) :=
(gR σ x0 5 0).bind fun v1 =>
(gR σ v1 8 2).bind fun v4 =>
(aL σ v4 x1).bind fun v8 =>
(fX10_length v8).bind fun w9 =>
if x2 ≤ x1 then
(fJX5_gatherOf_m_23 σ x0 x1 x2 w9 1)
else
(fJX5_gatherOf_m_23 σ x0 x1 x2 w9 0)
set_option maxHeartbeats 4000000 in
set_option maxRecDepth 100000 in
theorem cX5_gatherOfc {l : Launch} {G : xG} {A : Nat → Prop} {σ : St} {x0 : Nat} {x1 : Int32} {x2 : Int32} {c : St} (hf : fX5_gatherOf σ x0 x1 x2 = some c) : Con l yX5_gatherOf (xws yX5_gatherOf cX5_gatherOf 7 none) rmX5_gatherOf [.ref (x0), .int (x1), .int (x2)] G A σ none c := by
  refine x_start rfl (Nat.le_of_ble_eq_true rfl) (fun X _ _ _ C hE0 => ?_)
  have hE : ∀ r, c = r → xE1 X none r := fun r e => e ▸ hE0
  show V X (0, 0) σ 0 [(0, .ref (x0)), (1, .int (x1)), (2, .int (x2))] []
  unfold fX5_gatherOf at hf
  refine x_aload_n C dX5_gatherOf_0 1 rfl 0 rfl rfl ?_
  obtain ⟨v1, hv1, hf⟩ := x_bind hf
  refine x_getR C dX5_gatherOf_1 4 rfl hv1 cl5 rfl w337 ?_
  obtain ⟨v4, hv4, hf⟩ := x_bind hf
  refine x_getR C dX5_gatherOf_4 7 rfl hv4 cl8 rfl w190 ?_
  refine x_iload_n C dX5_gatherOf_7 8 rfl 1 rfl rfl ?_
  obtain ⟨v8, hv8, hf⟩ := x_bind hf
  refine x_laload C dX5_gatherOf_8 9 rfl hv8 ?_
  obtain ⟨w9, hw9, hf⟩ := x_bind hf
  refine x_callSi C dX5_gatherOf_9 12 rfl (cX10_lengthc hw9) kX10_length ksX10_length w985 ⟨rfl, rfl⟩ ⟨Nat.le_of_ble_eq_true rfl, Nat.le_of_ble_eq_true rfl⟩ ⟨Nat.zero_le _, Nat.zero_le _⟩ rfl rfl (Nat.le_of_ble_eq_true rfl) ?_
  refine x_istore_n C dX5_gatherOf_12 13 rfl rfl rfl [(3, .int (w9)), (0, .ref (x0)), (1, .int (x1)), (2, .int (x2))] rfl ?_
  refine x_iload_n C dX5_gatherOf_13 14 rfl 2 rfl rfl ?_
  refine x_iload_n C dX5_gatherOf_14 15 rfl 3 rfl rfl ?_
  refine x_icmp_ge C dX5_gatherOf_15 22 (by decide) 18 rfl (fun hc => ?_) (fun hc => ?_)
  · have hf := (if_pos hc).symm.trans hf
    refine x_iconst C dX5_gatherOf_22 23 rfl 1 (by decide) ?_
    refine x_lv [1, 2, 3, 0] (lv' := [(0, .ref (x0)), (1, .int (x1)), (2, .int (x2)), (3, .int (w9))]) rfl ?_
    exact jnX5_gatherOf_m_23 C hf hE
  · have hf := (if_neg hc).symm.trans hf
    refine x_iconst C dX5_gatherOf_18 19 rfl 0 (by decide) ?_
    refine x_goto C dX5_gatherOf_19 23 (by decide) ?_
    refine x_lv [1, 2, 3, 0] (lv' := [(0, .ref (x0)), (1, .int (x1)), (2, .int (x2)), (3, .int (w9))]) rfl ?_
    exact jnX5_gatherOf_m_23 C hf hE
theorem dX5_gather_0 : decode cX5_gather 0 = .ok (.aload_n 0, 1) := by decide +kernel
theorem dX5_gather_1 : decode cX5_gather 1 = .ok (.getfield 27, 3) := by decide +kernel
theorem dX5_gather_4 : decode cX5_gather 4 = .ok (.aload_n 0, 1) := by decide +kernel
theorem dX5_gather_5 : decode cX5_gather 5 = .ok (.getfield 30, 3) := by decide +kernel
theorem dX5_gather_8 : decode cX5_gather 8 = .ok (.getfield 38, 3) := by decide +kernel
theorem dX5_gather_11 : decode cX5_gather 11 = .ok (.if_icmp .ne 4, 3) := by decide +kernel
theorem dX5_gather_14 : decode cX5_gather 14 = .ok (.return_, 1) := by decide +kernel
theorem dX5_gather_15 : decode cX5_gather 15 = .ok (.aload_n 0, 1) := by decide +kernel
theorem dX5_gather_16 : decode cX5_gather 16 = .ok (.aload_n 0, 1) := by decide +kernel
theorem dX5_gather_17 : decode cX5_gather 17 = .ok (.getfield 30, 3) := by decide +kernel
theorem dX5_gather_20 : decode cX5_gather 20 = .ok (.getfield 38, 3) := by decide +kernel
theorem dX5_gather_23 : decode cX5_gather 23 = .ok (.putfield 27, 3) := by decide +kernel
theorem dX5_gather_26 : decode cX5_gather 26 = .ok (.aload_n 0, 1) := by decide +kernel
theorem dX5_gather_27 : decode cX5_gather 27 = .ok (.iconst 0, 1) := by decide +kernel
theorem dX5_gather_28 : decode cX5_gather 28 = .ok (.putfield 23, 3) := by decide +kernel
theorem dX5_gather_31 : decode cX5_gather 31 = .ok (.iconst 0, 1) := by decide +kernel
theorem dX5_gather_32 : decode cX5_gather 32 = .ok (.istore_n 1, 1) := by decide +kernel
theorem dX5_gather_33 : decode cX5_gather 33 = .ok (.iload_n 1, 1) := by decide +kernel
theorem dX5_gather_34 : decode cX5_gather 34 = .ok (.aload_n 0, 1) := by decide +kernel
theorem dX5_gather_35 : decode cX5_gather 35 = .ok (.getfield 30, 3) := by decide +kernel
theorem dX5_gather_38 : decode cX5_gather 38 = .ok (.getfield 41, 3) := by decide +kernel
theorem dX5_gather_41 : decode cX5_gather 41 = .ok (.if_icmp .ge 34, 3) := by decide +kernel
theorem dX5_gather_44 : decode cX5_gather 44 = .ok (.iconst 0, 1) := by decide +kernel
theorem dX5_gather_45 : decode cX5_gather 45 = .ok (.istore_n 2, 1) := by decide +kernel
theorem dX5_gather_46 : decode cX5_gather 46 = .ok (.iload_n 2, 1) := by decide +kernel
theorem dX5_gather_47 : decode cX5_gather 47 = .ok (.aload_n 0, 1) := by decide +kernel
theorem dX5_gather_48 : decode cX5_gather 48 = .ok (.getfield 30, 3) := by decide +kernel
theorem dX5_gather_51 : decode cX5_gather 51 = .ok (.getfield 41, 3) := by decide +kernel
theorem dX5_gather_54 : decode cX5_gather 54 = .ok (.if_icmp .ge 15, 3) := by decide +kernel
theorem dX5_gather_57 : decode cX5_gather 57 = .ok (.aload_n 0, 1) := by decide +kernel
theorem dX5_gather_58 : decode cX5_gather 58 = .ok (.iload_n 1, 1) := by decide +kernel
theorem dX5_gather_59 : decode cX5_gather 59 = .ok (.iload_n 2, 1) := by decide +kernel
theorem dX5_gather_60 : decode cX5_gather 60 = .ok (.invokevirtual 42, 3) := by decide +kernel
theorem dX5_gather_63 : decode cX5_gather 63 = .ok (.iinc 2 1, 3) := by decide +kernel
theorem dX5_gather_66 : decode cX5_gather 66 = .ok (.goto (-20), 3) := by decide +kernel
theorem dX5_gather_69 : decode cX5_gather 69 = .ok (.iinc 1 1, 3) := by decide +kernel
theorem dX5_gather_72 : decode cX5_gather 72 = .ok (.goto (-39), 3) := by decide +kernel
theorem dX5_gather_75 : decode cX5_gather 75 = .ok (.return_, 1) := by decide +kernel
abbrev rmX5_gather : Room := { frames := 3, cells := 0, slots := 0, locals := 117 }
noncomputable def fLX5_gather_46 (x0 : Nat) (x1 : Int32) (a : Int32 × St) : Option ((Int32 × St) ⊕ (St)) :=
(gR a.2 x0 5 0).bind fun v48 =>
(gI a.2 v48 8 1).bind fun v51 =>
if v51 ≤ a.1 then
(some (Sum.inr a.2))
else
((isO a.2 x0 5).bind fun _ =>
(fX5_gatherOf a.2 x0 x1 a.1).bind fun w60 =>
xlet (a.1 + 1) fun v63 =>
some (Sum.inl (v63, w60)))
set_option maxHeartbeats 4000000 in
set_option maxRecDepth 100000 in
theorem lpX5_gather_46 {X : xX} {x0 : Nat} {x1 : Int32}  {a0 : Int32 × St} {b : St} (C : Ok X cX5_gather 3 RX5 rmX5_gather none) (hb : iterP (fLX5_gather_46 x0 x1) a0 = some b) (hy0 : ∀ s, b = s → V X (0, 0) s 69 [(0, .ref (x0)), (1, .int (x1))] []) : V X (0, 0) a0.2 46 [(0, .ref (x0)), (1, .int (x1)), (2, .int (a0.1))] [] := by
  obtain ⟨n, hn⟩ := iterP_some hb
  refine x_loop (P := fun a => V X (0, 0) a.2 46 [(0, .ref (x0)), (1, .int (x1)), (2, .int (a.1))] []) ?_ n a0 hn
  intro a c hf hK hxx
  have hx0 : ∀ s, c = Sum.inr s → V X (0, 0) s 69 [(0, .ref (x0)), (1, .int (x1))] [] := fun s e => hy0 s (hxx _ e).symm
  unfold fLX5_gather_46 at hf
  refine x_iload_n C dX5_gather_46 47 rfl 2 rfl rfl ?_
  refine x_aload_n C dX5_gather_47 48 rfl 0 rfl rfl ?_
  obtain ⟨v48, hv48, hf⟩ := x_bind hf
  refine x_getR C dX5_gather_48 51 rfl hv48 cl5 rfl w337 ?_
  obtain ⟨v51, hv51, hf⟩ := x_bind hf
  refine x_getI C dX5_gather_51 54 rfl hv51 cl8 rfl w183 ?_
  refine x_icmp_ge C dX5_gather_54 69 (by decide) 57 rfl (fun hc => ?_) (fun hc => ?_)
  · have hf := (if_pos hc).symm.trans hf
    refine x_lv [0, 1] (lv' := [(0, .ref (x0)), (1, .int (x1))]) rfl ?_
    exact hx0 _ (Option.some.inj hf).symm
  · have hf := (if_neg hc).symm.trans hf
    refine x_aload_n C dX5_gather_57 58 rfl 0 rfl rfl ?_
    refine x_iload_n C dX5_gather_58 59 rfl 1 rfl rfl ?_
    refine x_iload_n C dX5_gather_59 60 rfl 2 rfl rfl ?_
    obtain ⟨o60, ho60, hf⟩ := x_bind hf
    obtain ⟨w60, hw60, hf⟩ := x_bind hf
    refine x_callVv C dX5_gather_60 63 rfl ho60 cl5.1 rfl (cX5_gatherOfc hw60) kX5_gatherOf kvX5_gatherOf w981 ⟨rfl, rfl⟩ ⟨Nat.le_of_ble_eq_true rfl, Nat.le_of_ble_eq_true rfl⟩ ⟨Nat.zero_le _, Nat.zero_le _⟩ rfl rfl (Nat.le_of_ble_eq_true rfl) ?_
    obtain ⟨v63, ev63, hf⟩ := xlet_some hf
    refine x_iinc C dX5_gather_63 66 rfl 2 rfl v63 ev63 rfl [(2, .int (v63)), (0, .ref (x0)), (1, .int (x1))] rfl ?_
    refine x_goto C dX5_gather_66 46 (by decide) ?_
    refine x_lv [1, 2, 0] (lv' := [(0, .ref (x0)), (1, .int (x1)), (2, .int (v63))]) rfl ?_
    exact hK _ (Option.some.inj hf).symm
noncomputable def fLX5_gather_33 (x0 : Nat) (a : Int32 × St) : Option ((Int32 × St) ⊕ (St)) :=
(gR a.2 x0 5 0).bind fun v35 =>
(gI a.2 v35 8 1).bind fun v38 =>
if v38 ≤ a.1 then
(some (Sum.inr a.2))
else
((iterP (fLX5_gather_46 x0 a.1) (0, a.2)).bind fun b46 =>
xlet (a.1 + 1) fun v69 =>
some (Sum.inl (v69, b46)))
set_option maxHeartbeats 4000000 in
set_option maxRecDepth 100000 in
theorem lpX5_gather_33 {X : xX} {x0 : Nat}  {a0 : Int32 × St} {b : St} (C : Ok X cX5_gather 3 RX5 rmX5_gather none) (hb : iterP (fLX5_gather_33 x0) a0 = some b) (hy0 : ∀ s, b = s → V X (0, 0) s 75 [] []) : V X (0, 0) a0.2 33 [(0, .ref (x0)), (1, .int (a0.1))] [] := by
  obtain ⟨n, hn⟩ := iterP_some hb
  refine x_loop (P := fun a => V X (0, 0) a.2 33 [(0, .ref (x0)), (1, .int (a.1))] []) ?_ n a0 hn
  intro a c hf hK hxx
  have hx0 : ∀ s, c = Sum.inr s → V X (0, 0) s 75 [] [] := fun s e => hy0 s (hxx _ e).symm
  unfold fLX5_gather_33 at hf
  refine x_iload_n C dX5_gather_33 34 rfl 1 rfl rfl ?_
  refine x_aload_n C dX5_gather_34 35 rfl 0 rfl rfl ?_
  obtain ⟨v35, hv35, hf⟩ := x_bind hf
  refine x_getR C dX5_gather_35 38 rfl hv35 cl5 rfl w337 ?_
  obtain ⟨v38, hv38, hf⟩ := x_bind hf
  refine x_getI C dX5_gather_38 41 rfl hv38 cl8 rfl w183 ?_
  refine x_icmp_ge C dX5_gather_41 75 (by decide) 44 rfl (fun hc => ?_) (fun hc => ?_)
  · have hf := (if_pos hc).symm.trans hf
    refine x_lv [] (lv' := []) rfl ?_
    exact hx0 _ (Option.some.inj hf).symm
  · have hf := (if_neg hc).symm.trans hf
    refine x_iconst C dX5_gather_44 45 rfl 0 (by decide) ?_
    refine x_istore_n C dX5_gather_45 46 rfl rfl rfl [(2, .int (0)), (0, .ref (x0)), (1, .int (a.1))] rfl ?_
    obtain ⟨b46, hb46, hf⟩ := x_bind hf
    refine x_lv [1, 2, 0] (lv' := [(0, .ref (x0)), (1, .int (a.1)), (2, .int (0))]) rfl ?_
    refine lpX5_gather_46 C hb46 (fun s46 e46 => ?_)
    subst e46
    obtain ⟨v69, ev69, hf⟩ := xlet_some hf
    refine x_iinc C dX5_gather_69 72 rfl 1 rfl v69 ev69 rfl [(1, .int (v69)), (0, .ref (x0))] rfl ?_
    refine x_goto C dX5_gather_72 33 (by decide) ?_
    refine x_lv [1, 0] (lv' := [(0, .ref (x0)), (1, .int (v69))]) rfl ?_
    exact hK _ (Option.some.inj hf).symm
noncomputable def fX5_gather (σ : St) (x0 : Nat) : Option (St) :=
(gI σ x0 5 6).bind fun v1 =>
(gR σ x0 5 0).bind fun v5 =>
(gI σ v5 8 6).bind fun v8 =>
if v1 = v8 then
(some σ)
else
((gR σ x0 5 0).bind fun v17 =>
(gI σ v17 8 6).bind fun v20 =>
(wrF σ x0 5 6 (.int (v20))).bind fun σ23 =>
(wrF σ23 x0 5 5 (.int (0))).bind fun σ28 =>
(iterP (fLX5_gather_33 x0) (0, σ28)).bind fun b33 =>
some b33)
set_option maxHeartbeats 4000000 in
set_option maxRecDepth 100000 in
theorem cX5_gatherc {l : Launch} {G : xG} {A : Nat → Prop} {σ : St} {x0 : Nat} {c : St} (hf : fX5_gather σ x0 = some c) : Con l yX5_gather (xws yX5_gather cX5_gather 3 none) rmX5_gather [.ref (x0)] G A σ none c := by
  refine x_start rfl (Nat.le_of_ble_eq_true rfl) (fun X _ _ _ C hE0 => ?_)
  have hE : ∀ r, c = r → xE1 X none r := fun r e => e ▸ hE0
  show V X (0, 0) σ 0 [(0, .ref (x0))] []
  unfold fX5_gather at hf
  refine x_aload_n C dX5_gather_0 1 rfl 0 rfl rfl ?_
  obtain ⟨v1, hv1, hf⟩ := x_bind hf
  refine x_getI C dX5_gather_1 4 rfl hv1 cl5 rfl w345 ?_
  refine x_aload_n C dX5_gather_4 5 rfl 0 rfl rfl ?_
  obtain ⟨v5, hv5, hf⟩ := x_bind hf
  refine x_getR C dX5_gather_5 8 rfl hv5 cl5 rfl w337 ?_
  obtain ⟨v8, hv8, hf⟩ := x_bind hf
  refine x_getI C dX5_gather_8 11 rfl hv8 cl8 rfl w209 ?_
  refine x_icmp_ne C dX5_gather_11 15 (by decide) 14 rfl (fun hc => ?_) (fun hc => ?_)
  · have hf := (if_neg hc).symm.trans hf
    refine x_aload_n C dX5_gather_15 16 rfl 0 rfl rfl ?_
    refine x_aload_n C dX5_gather_16 17 rfl 0 rfl rfl ?_
    obtain ⟨v17, hv17, hf⟩ := x_bind hf
    refine x_getR C dX5_gather_17 20 rfl hv17 cl5 rfl w337 ?_
    obtain ⟨v20, hv20, hf⟩ := x_bind hf
    refine x_getI C dX5_gather_20 23 rfl hv20 cl8 rfl w209 ?_
    obtain ⟨σ23, hσ23, hf⟩ := x_bind hf
    refine x_putX C dX5_gather_23 26 rfl hσ23 cl5 rfl w345 rfl rfl rfl ?_
    refine x_aload_n C dX5_gather_26 27 rfl 0 rfl rfl ?_
    refine x_iconst C dX5_gather_27 28 rfl 0 (by decide) ?_
    obtain ⟨σ28, hσ28, hf⟩ := x_bind hf
    refine x_putX C dX5_gather_28 31 rfl hσ28 cl5 rfl w343 rfl rfl rfl ?_
    refine x_iconst C dX5_gather_31 32 rfl 0 (by decide) ?_
    refine x_istore_n C dX5_gather_32 33 rfl rfl rfl [(1, .int (0)), (0, .ref (x0))] rfl ?_
    obtain ⟨b33, hb33, hf⟩ := x_bind hf
    refine x_lv [1, 0] (lv' := [(0, .ref (x0)), (1, .int (0))]) rfl ?_
    refine lpX5_gather_33 C hb33 (fun s33 e33 => ?_)
    subst e33
    exact x_vret C (hE _ (Option.some.inj hf).symm) dX5_gather_75
  · have hf := (if_pos hc).symm.trans hf
    exact x_vret C (hE _ (Option.some.inj hf).symm) dX5_gather_14
theorem dX5_isClosed_0 : decode cX5_isClosed 0 = .ok (.aload_n 0, 1) := by decide +kernel
theorem dX5_isClosed_1 : decode cX5_isClosed 1 = .ok (.getfield 19, 3) := by decide +kernel
theorem dX5_isClosed_4 : decode cX5_isClosed 4 = .ok (.iload_n 1, 1) := by decide +kernel
theorem dX5_isClosed_5 : decode cX5_isClosed 5 = .ok (.baload, 1) := by decide +kernel
theorem dX5_isClosed_6 : decode cX5_isClosed 6 = .ok (.ifCond .ne 51, 3) := by decide +kernel
theorem dX5_isClosed_9 : decode cX5_isClosed 9 = .ok (.aload_n 0, 1) := by decide +kernel
theorem dX5_isClosed_10 : decode cX5_isClosed 10 = .ok (.iload_n 1, 1) := by decide +kernel
theorem dX5_isClosed_11 : decode cX5_isClosed 11 = .ok (.iconst 0, 1) := by decide +kernel
theorem dX5_isClosed_12 : decode cX5_isClosed 12 = .ok (.aload_n 0, 1) := by decide +kernel
theorem dX5_isClosed_13 : decode cX5_isClosed 13 = .ok (.iload_n 1, 1) := by decide +kernel
theorem dX5_isClosed_14 : decode cX5_isClosed 14 = .ok (.invokevirtual 86, 3) := by decide +kernel
theorem dX5_isClosed_17 : decode cX5_isClosed 17 = .ok (.invokevirtual 90, 3) := by decide +kernel
theorem dX5_isClosed_20 : decode cX5_isClosed 20 = .ok (.lstore_n 2, 1) := by decide +kernel
theorem dX5_isClosed_21 : decode cX5_isClosed 21 = .ok (.aload_n 0, 1) := by decide +kernel
theorem dX5_isClosed_22 : decode cX5_isClosed 22 = .ok (.iload_n 1, 1) := by decide +kernel
theorem dX5_isClosed_23 : decode cX5_isClosed 23 = .ok (.aload_n 0, 1) := by decide +kernel
theorem dX5_isClosed_24 : decode cX5_isClosed 24 = .ok (.iload_n 1, 1) := by decide +kernel
theorem dX5_isClosed_25 : decode cX5_isClosed 25 = .ok (.invokevirtual 93, 3) := by decide +kernel
theorem dX5_isClosed_28 : decode cX5_isClosed 28 = .ok (.aload_n 0, 1) := by decide +kernel
theorem dX5_isClosed_29 : decode cX5_isClosed 29 = .ok (.iload_n 1, 1) := by decide +kernel
theorem dX5_isClosed_30 : decode cX5_isClosed 30 = .ok (.invokevirtual 96, 3) := by decide +kernel
theorem dX5_isClosed_33 : decode cX5_isClosed 33 = .ok (.invokevirtual 90, 3) := by decide +kernel
theorem dX5_isClosed_36 : decode cX5_isClosed 36 = .ok (.lstore 4, 2) := by decide +kernel
theorem dX5_isClosed_38 : decode cX5_isClosed 38 = .ok (.aload_n 0, 1) := by decide +kernel
theorem dX5_isClosed_39 : decode cX5_isClosed 39 = .ok (.getfield 19, 3) := by decide +kernel
theorem dX5_isClosed_42 : decode cX5_isClosed 42 = .ok (.iload_n 1, 1) := by decide +kernel
theorem dX5_isClosed_43 : decode cX5_isClosed 43 = .ok (.lload_n 2, 1) := by decide +kernel
theorem dX5_isClosed_44 : decode cX5_isClosed 44 = .ok (.lload 4, 2) := by decide +kernel
theorem dX5_isClosed_46 : decode cX5_isClosed 46 = .ok (.lcmp, 1) := by decide +kernel
theorem dX5_isClosed_47 : decode cX5_isClosed 47 = .ok (.ifCond .ne 7, 3) := by decide +kernel
theorem dX5_isClosed_50 : decode cX5_isClosed 50 = .ok (.iconst 1, 1) := by decide +kernel
theorem dX5_isClosed_51 : decode cX5_isClosed 51 = .ok (.goto 4, 3) := by decide +kernel
theorem dX5_isClosed_54 : decode cX5_isClosed 54 = .ok (.iconst 2, 1) := by decide +kernel
theorem dX5_isClosed_55 : decode cX5_isClosed 55 = .ok (.i2b, 1) := by decide +kernel
theorem dX5_isClosed_56 : decode cX5_isClosed 56 = .ok (.bastore, 1) := by decide +kernel
theorem dX5_isClosed_57 : decode cX5_isClosed 57 = .ok (.aload_n 0, 1) := by decide +kernel
theorem dX5_isClosed_58 : decode cX5_isClosed 58 = .ok (.getfield 19, 3) := by decide +kernel
theorem dX5_isClosed_61 : decode cX5_isClosed 61 = .ok (.iload_n 1, 1) := by decide +kernel
theorem dX5_isClosed_62 : decode cX5_isClosed 62 = .ok (.baload, 1) := by decide +kernel
theorem dX5_isClosed_63 : decode cX5_isClosed 63 = .ok (.iconst 1, 1) := by decide +kernel
theorem dX5_isClosed_64 : decode cX5_isClosed 64 = .ok (.if_icmp .ne 7, 3) := by decide +kernel
theorem dX5_isClosed_67 : decode cX5_isClosed 67 = .ok (.iconst 1, 1) := by decide +kernel
theorem dX5_isClosed_68 : decode cX5_isClosed 68 = .ok (.goto 4, 3) := by decide +kernel
theorem dX5_isClosed_71 : decode cX5_isClosed 71 = .ok (.iconst 0, 1) := by decide +kernel
theorem dX5_isClosed_72 : decode cX5_isClosed 72 = .ok (.ireturn, 1) := by decide +kernel
abbrev rmX5_isClosed : Room := { frames := 5, cells := 0, slots := 0, locals := 164 }
noncomputable def fJX5_isClosed_m_57 (σ : St) (x0 : Nat) (x1 : Int32)  : Option ((Int32 × St)) :=
(gR σ x0 5 4).bind fun v58 =>
(aI σ v58 2 x1).bind fun v62 =>
if v62 = ((1 : Int32)) then
(some (1, σ))
else
(some (0, σ))
set_option maxHeartbeats 4000000 in
set_option maxRecDepth 100000 in
theorem jnX5_isClosed_m_57 {X : xX} {σ : St} {x0 : Nat} {x1 : Int32}   {c : (Int32 × St)} (C : Ok X cX5_isClosed 6 RX5 rmX5_isClosed (some .boolean)) (hf : fJX5_isClosed_m_57 σ x0 x1  = some c) (hE : ∀ r, c = r → xE1 X (some (.int r.1)) r.2) : V X (0, 0) σ 57 [(0, .ref (x0)), (1, .int (x1))] [] := by
  unfold fJX5_isClosed_m_57 at hf
  refine x_aload_n C dX5_isClosed_57 58 rfl 0 rfl rfl ?_
  obtain ⟨v58, hv58, hf⟩ := x_bind hf
  refine x_getR C dX5_isClosed_58 61 rfl hv58 cl5 rfl w342 ?_
  refine x_iload_n C dX5_isClosed_61 62 rfl 1 rfl rfl ?_
  obtain ⟨v62, hv62, hf⟩ := x_bind hf
  refine x_baload C dX5_isClosed_62 63 rfl hv62 ?_
  refine x_iconst C dX5_isClosed_63 64 rfl 1 (by decide) ?_
  refine x_icmp_ne C dX5_isClosed_64 71 (by decide) 67 rfl (fun hc => ?_) (fun hc => ?_)
  · have hf := (if_neg hc).symm.trans hf
    refine x_iconst C dX5_isClosed_71 72 rfl 0 (by decide) ?_
    exact x_zret C rfl (hE _ (Option.some.inj hf).symm) dX5_isClosed_72
  · have hf := (if_pos hc).symm.trans hf
    refine x_iconst C dX5_isClosed_67 68 rfl 1 (by decide) ?_
    refine x_goto C dX5_isClosed_68 72 (by decide) ?_
    exact x_zret C rfl (hE _ (Option.some.inj hf).symm) dX5_isClosed_72
noncomputable def fJX5_isClosed_m_55 (σ : St) (x0 : Nat) (x1 : Int32) (t0 : Int32) (t1 : Int32) (t2 : Nat) : Option ((Int32 × St)) :=
(sB σ t2 t1 t0.toInt8.toInt32).bind fun σ56 =>
fJX5_isClosed_m_57 σ56 x0 x1
set_option maxHeartbeats 4000000 in
set_option maxRecDepth 100000 in
theorem jnX5_isClosed_m_55 {X : xX} {σ : St} {x0 : Nat} {x1 : Int32} {t0 : Int32} {t1 : Int32} {t2 : Nat}  {c : (Int32 × St)} (C : Ok X cX5_isClosed 6 RX5 rmX5_isClosed (some .boolean)) (hf : fJX5_isClosed_m_55 σ x0 x1 t0 t1 t2 = some c) (hE : ∀ r, c = r → xE1 X (some (.int r.1)) r.2) : V X (0, 0) σ 55 [(0, .ref (x0)), (1, .int (x1))] [.int (t0), .int (t1), .ref (t2)] := by
  unfold fJX5_isClosed_m_55 at hf
  refine x_i2b C dX5_isClosed_55 56 rfl ?_
  obtain ⟨σ56, hσ56, hf⟩ := x_bind hf
  refine x_bastore C dX5_isClosed_56 57 rfl hσ56 ?_
  exact jnX5_isClosed_m_57 C hf hE
noncomputable def fX5_isClosed (σ : St) (x0 : Nat) (x1 : Int32) : Option ((Int32 × St)) :=
(gR σ x0 5 4).bind fun v1 =>
(aI σ v1 2 x1).bind fun v5 =>
if v5 = 0 then
((isO σ x0 5).bind fun _ =>
(fX5_firstRule σ x0 x1).bind fun w14 =>
(isO σ x0 5).bind fun _ =>
(fX5_endOf σ x0 x1 0 w14).bind fun w17 =>
(isO w17.2 x0 5).bind fun _ =>
(fX5_shift w17.2 x0 x1).bind fun w25 =>
(isO w17.2 x0 5).bind fun _ =>
(fX5_secondRule w17.2 x0 x1).bind fun w30 =>
(isO w17.2 x0 5).bind fun _ =>
(fX5_endOf w17.2 x0 x1 w25 w30).bind fun w33 =>
(gR w33.2 x0 5 4).bind fun v39 =>
if (lg_cmp w17.1 w33.1) = 0 then
(fJX5_isClosed_m_55 w33.2 x0 x1 1 x1 v39)
else
(fJX5_isClosed_m_55 w33.2 x0 x1 2 x1 v39))
else
(fJX5_isClosed_m_57 σ x0 x1)
set_option maxHeartbeats 4000000 in
set_option maxRecDepth 100000 in
theorem cX5_isClosedc {l : Launch} {G : xG} {A : Nat → Prop} {σ : St} {x0 : Nat} {x1 : Int32} {c : (Int32 × St)} (hf : fX5_isClosed σ x0 x1 = some c) : Con l yX5_isClosed (xws yX5_isClosed cX5_isClosed 6 (some .boolean)) rmX5_isClosed [.ref (x0), .int (x1)] G A σ (some (.int c.1)) c.2 := by
  refine x_start rfl (Nat.le_of_ble_eq_true rfl) (fun X _ _ _ C hE0 => ?_)
  have hE : ∀ r, c = r → xE1 X (some (.int r.1)) r.2 := fun r e => e ▸ hE0
  show V X (0, 0) σ 0 [(0, .ref (x0)), (1, .int (x1))] []
  unfold fX5_isClosed at hf
  refine x_aload_n C dX5_isClosed_0 1 rfl 0 rfl rfl ?_
  obtain ⟨v1, hv1, hf⟩ := x_bind hf
  refine x_getR C dX5_isClosed_1 4 rfl hv1 cl5 rfl w342 ?_
  refine x_iload_n C dX5_isClosed_4 5 rfl 1 rfl rfl ?_
  obtain ⟨v5, hv5, hf⟩ := x_bind hf
  refine x_baload C dX5_isClosed_5 6 rfl hv5 ?_
  refine x_if_ne C dX5_isClosed_6 57 (by decide) 9 rfl (fun hc => ?_) (fun hc => ?_)
  · have hf := (if_neg hc).symm.trans hf
    exact jnX5_isClosed_m_57 C hf hE
  · have hf := (if_pos hc).symm.trans hf
    refine x_aload_n C dX5_isClosed_9 10 rfl 0 rfl rfl ?_
    refine x_iload_n C dX5_isClosed_10 11 rfl 1 rfl rfl ?_
    refine x_iconst C dX5_isClosed_11 12 rfl 0 (by decide) ?_
    refine x_aload_n C dX5_isClosed_12 13 rfl 0 rfl rfl ?_
    refine x_iload_n C dX5_isClosed_13 14 rfl 1 rfl rfl ?_
    obtain ⟨o14, ho14, hf⟩ := x_bind hf
    obtain ⟨w14, hw14, hf⟩ := x_bind hf
    refine x_callVi C dX5_isClosed_14 17 rfl ho14 cl5.1 rfl (cX5_firstRulec hw14) kX5_firstRule kvX5_firstRule w1007 ⟨rfl, rfl⟩ ⟨Nat.le_of_ble_eq_true rfl, Nat.le_of_ble_eq_true rfl⟩ ⟨Nat.zero_le _, Nat.zero_le _⟩ rfl rfl (Nat.le_of_ble_eq_true rfl) ?_
    obtain ⟨o17, ho17, hf⟩ := x_bind hf
    obtain ⟨w17, hw17, hf⟩ := x_bind hf
    refine x_callVl C dX5_isClosed_17 20 rfl ho17 cl5.1 rfl (cX5_endOfc hw17) kX5_endOf kvX5_endOf w1011 ⟨rfl, rfl⟩ ⟨Nat.le_of_ble_eq_true rfl, Nat.le_of_ble_eq_true rfl⟩ ⟨Nat.zero_le _, Nat.zero_le _⟩ rfl rfl (Nat.le_of_ble_eq_true rfl) ?_
    refine x_lstore_n C dX5_isClosed_20 21 rfl rfl rfl [(2, .long (w17.1)), (0, .ref (x0)), (1, .int (x1))] rfl ?_
    refine x_aload_n C dX5_isClosed_21 22 rfl 1 rfl rfl ?_
    refine x_iload_n C dX5_isClosed_22 23 rfl 2 rfl rfl ?_
    refine x_aload_n C dX5_isClosed_23 24 rfl 1 rfl rfl ?_
    refine x_iload_n C dX5_isClosed_24 25 rfl 2 rfl rfl ?_
    obtain ⟨o25, ho25, hf⟩ := x_bind hf
    obtain ⟨w25, hw25, hf⟩ := x_bind hf
    refine x_callVi C dX5_isClosed_25 28 rfl ho25 cl5.1 rfl (cX5_shiftc hw25) kX5_shift kvX5_shift w1018 ⟨rfl, rfl⟩ ⟨Nat.le_of_ble_eq_true rfl, Nat.le_of_ble_eq_true rfl⟩ ⟨Nat.zero_le _, Nat.zero_le _⟩ rfl rfl (Nat.le_of_ble_eq_true rfl) ?_
    refine x_aload_n C dX5_isClosed_28 29 rfl 1 rfl rfl ?_
    refine x_iload_n C dX5_isClosed_29 30 rfl 2 rfl rfl ?_
    obtain ⟨o30, ho30, hf⟩ := x_bind hf
    obtain ⟨w30, hw30, hf⟩ := x_bind hf
    refine x_callVi C dX5_isClosed_30 33 rfl ho30 cl5.1 rfl (cX5_secondRulec hw30) kX5_secondRule kvX5_secondRule w1022 ⟨rfl, rfl⟩ ⟨Nat.le_of_ble_eq_true rfl, Nat.le_of_ble_eq_true rfl⟩ ⟨Nat.zero_le _, Nat.zero_le _⟩ rfl rfl (Nat.le_of_ble_eq_true rfl) ?_
    obtain ⟨o33, ho33, hf⟩ := x_bind hf
    obtain ⟨w33, hw33, hf⟩ := x_bind hf
    refine x_callVl C dX5_isClosed_33 36 rfl ho33 cl5.1 rfl (cX5_endOfc hw33) kX5_endOf kvX5_endOf w1011 ⟨rfl, rfl⟩ ⟨Nat.le_of_ble_eq_true rfl, Nat.le_of_ble_eq_true rfl⟩ ⟨Nat.zero_le _, Nat.zero_le _⟩ rfl rfl (Nat.le_of_ble_eq_true rfl) ?_
    refine x_lstore C dX5_isClosed_36 38 rfl rfl [(4, .long (w33.1)), (2, .long (w17.1)), (0, .ref (x0)), (1, .int (x1))] rfl ?_
    refine x_aload_n C dX5_isClosed_38 39 rfl 2 rfl rfl ?_
    obtain ⟨v39, hv39, hf⟩ := x_bind hf
    refine x_getR C dX5_isClosed_39 42 rfl hv39 cl5 rfl w342 ?_
    refine x_iload_n C dX5_isClosed_42 43 rfl 3 rfl rfl ?_
    refine x_lload_n C dX5_isClosed_43 44 rfl 1 rfl rfl ?_
    refine x_lload C dX5_isClosed_44 46 rfl 0 rfl ?_
    refine x_lcmp C dX5_isClosed_46 47 rfl ?_
    refine x_if_ne C dX5_isClosed_47 54 (by decide) 50 rfl (fun hc => ?_) (fun hc => ?_)
    · have hf := (if_neg hc).symm.trans hf
      refine x_iconst C dX5_isClosed_54 55 rfl 2 (by decide) ?_
      refine x_lv [2, 3] (lv' := [(0, .ref (x0)), (1, .int (x1))]) rfl ?_
      exact jnX5_isClosed_m_55 C hf hE
    · have hf := (if_pos hc).symm.trans hf
      refine x_iconst C dX5_isClosed_50 51 rfl 1 (by decide) ?_
      refine x_goto C dX5_isClosed_51 55 (by decide) ?_
      refine x_lv [2, 3] (lv' := [(0, .ref (x0)), (1, .int (x1))]) rfl ?_
      exact jnX5_isClosed_m_55 C hf hE
theorem dX5_leastOpen_0 : decode cX5_leastOpen 0 = .ok (.aload_n 0, 1) := by decide +kernel
theorem dX5_leastOpen_1 : decode cX5_leastOpen 1 = .ok (.invokevirtual 110, 3) := by decide +kernel
theorem dX5_leastOpen_4 : decode cX5_leastOpen 4 = .ok (.iconst (-1), 1) := by decide +kernel
theorem dX5_leastOpen_5 : decode cX5_leastOpen 5 = .ok (.istore_n 1, 1) := by decide +kernel
theorem dX5_leastOpen_6 : decode cX5_leastOpen 6 = .ok (.iconst 0, 1) := by decide +kernel
theorem dX5_leastOpen_7 : decode cX5_leastOpen 7 = .ok (.istore_n 2, 1) := by decide +kernel
theorem dX5_leastOpen_8 : decode cX5_leastOpen 8 = .ok (.iload_n 2, 1) := by decide +kernel
theorem dX5_leastOpen_9 : decode cX5_leastOpen 9 = .ok (.aload_n 0, 1) := by decide +kernel
theorem dX5_leastOpen_10 : decode cX5_leastOpen 10 = .ok (.getfield 23, 3) := by decide +kernel
theorem dX5_leastOpen_13 : decode cX5_leastOpen 13 = .ok (.if_icmp .ge 46, 3) := by decide +kernel
theorem dX5_leastOpen_16 : decode cX5_leastOpen 16 = .ok (.aload_n 0, 1) := by decide +kernel
theorem dX5_leastOpen_17 : decode cX5_leastOpen 17 = .ok (.iload_n 2, 1) := by decide +kernel
theorem dX5_leastOpen_18 : decode cX5_leastOpen 18 = .ok (.invokevirtual 113, 3) := by decide +kernel
theorem dX5_leastOpen_21 : decode cX5_leastOpen 21 = .ok (.ifCond .ne 32, 3) := by decide +kernel
theorem dX5_leastOpen_24 : decode cX5_leastOpen 24 = .ok (.iload_n 1, 1) := by decide +kernel
theorem dX5_leastOpen_25 : decode cX5_leastOpen 25 = .ok (.iconst (-1), 1) := by decide +kernel
theorem dX5_leastOpen_26 : decode cX5_leastOpen 26 = .ok (.if_icmp .eq 25, 3) := by decide +kernel
theorem dX5_leastOpen_29 : decode cX5_leastOpen 29 = .ok (.aload_n 0, 1) := by decide +kernel
theorem dX5_leastOpen_30 : decode cX5_leastOpen 30 = .ok (.getfield 30, 3) := by decide +kernel
theorem dX5_leastOpen_33 : decode cX5_leastOpen 33 = .ok (.aload_n 0, 1) := by decide +kernel
theorem dX5_leastOpen_34 : decode cX5_leastOpen 34 = .ok (.getfield 11, 3) := by decide +kernel
theorem dX5_leastOpen_37 : decode cX5_leastOpen 37 = .ok (.iload_n 2, 1) := by decide +kernel
theorem dX5_leastOpen_38 : decode cX5_leastOpen 38 = .ok (.laload, 1) := by decide +kernel
theorem dX5_leastOpen_39 : decode cX5_leastOpen 39 = .ok (.aload_n 0, 1) := by decide +kernel
theorem dX5_leastOpen_40 : decode cX5_leastOpen 40 = .ok (.getfield 11, 3) := by decide +kernel
theorem dX5_leastOpen_43 : decode cX5_leastOpen 43 = .ok (.iload_n 1, 1) := by decide +kernel
theorem dX5_leastOpen_44 : decode cX5_leastOpen 44 = .ok (.laload, 1) := by decide +kernel
theorem dX5_leastOpen_45 : decode cX5_leastOpen 45 = .ok (.invokevirtual 117, 3) := by decide +kernel
theorem dX5_leastOpen_48 : decode cX5_leastOpen 48 = .ok (.ifCond .ge 5, 3) := by decide +kernel
theorem dX5_leastOpen_51 : decode cX5_leastOpen 51 = .ok (.iload_n 2, 1) := by decide +kernel
theorem dX5_leastOpen_52 : decode cX5_leastOpen 52 = .ok (.istore_n 1, 1) := by decide +kernel
theorem dX5_leastOpen_53 : decode cX5_leastOpen 53 = .ok (.iinc 2 1, 3) := by decide +kernel
theorem dX5_leastOpen_56 : decode cX5_leastOpen 56 = .ok (.goto (-48), 3) := by decide +kernel
theorem dX5_leastOpen_59 : decode cX5_leastOpen 59 = .ok (.iload_n 1, 1) := by decide +kernel
theorem dX5_leastOpen_60 : decode cX5_leastOpen 60 = .ok (.ireturn, 1) := by decide +kernel
abbrev rmX5_leastOpen : Room := { frames := 6, cells := 0, slots := 0, locals := 189 }
noncomputable def fLX5_leastOpen_8 (x0 : Nat) (a : Int32 × Int32 × St) : Option ((Int32 × Int32 × St) ⊕ (Int32 × St)) :=
(gI a.2.2 x0 5 5).bind fun v10 =>
if v10 ≤ a.2.1 then
(some (Sum.inr (a.1, a.2.2)))
else
((isO a.2.2 x0 5).bind fun _ =>
(fX5_isClosed a.2.2 x0 a.2.1).bind fun w18 =>
if w18.1 = 0 then
(if a.1 = (((-1) : Int32)) then
(xlet (a.2.1 + 1) fun v53 =>
some (Sum.inl (a.2.1, v53, w18.2)))
else
((gR w18.2 x0 5 0).bind fun v30 =>
(gR w18.2 x0 5 2).bind fun v34 =>
(aL w18.2 v34 a.2.1).bind fun v38 =>
(gR w18.2 x0 5 2).bind fun v40 =>
(aL w18.2 v40 a.1).bind fun v44 =>
(isO w18.2 v30 8).bind fun _ =>
(fX8_order w18.2 v30 v38 v44).bind fun w45 =>
if 0 ≤ w45 then
(xlet (a.2.1 + 1) fun v53 =>
some (Sum.inl (a.1, v53, w18.2)))
else
(xlet (a.2.1 + 1) fun v53 =>
some (Sum.inl (a.2.1, v53, w18.2)))))
else
(xlet (a.2.1 + 1) fun v53 =>
some (Sum.inl (a.1, v53, w18.2))))
set_option maxHeartbeats 4000000 in
set_option maxRecDepth 100000 in
theorem lpX5_leastOpen_8 {X : xX} {x0 : Nat}  {a0 : Int32 × Int32 × St} {b : Int32 × St} (C : Ok X cX5_leastOpen 3 RX5 rmX5_leastOpen (some .int)) (hb : iterP (fLX5_leastOpen_8 x0) a0 = some b) (hy0 : ∀ s, b = s → V X (0, 0) s.2 59 [(1, .int (s.1))] []) : V X (0, 0) a0.2.2 8 [(0, .ref (x0)), (1, .int (a0.1)), (2, .int (a0.2.1))] [] := by
  obtain ⟨n, hn⟩ := iterP_some hb
  refine x_loop (P := fun a => V X (0, 0) a.2.2 8 [(0, .ref (x0)), (1, .int (a.1)), (2, .int (a.2.1))] []) ?_ n a0 hn
  intro a c hf hK hxx
  have hx0 : ∀ s, c = Sum.inr s → V X (0, 0) s.2 59 [(1, .int (s.1))] [] := fun s e => hy0 s (hxx _ e).symm
  unfold fLX5_leastOpen_8 at hf
  refine x_iload_n C dX5_leastOpen_8 9 rfl 2 rfl rfl ?_
  refine x_aload_n C dX5_leastOpen_9 10 rfl 0 rfl rfl ?_
  obtain ⟨v10, hv10, hf⟩ := x_bind hf
  refine x_getI C dX5_leastOpen_10 13 rfl hv10 cl5 rfl w343 ?_
  refine x_icmp_ge C dX5_leastOpen_13 59 (by decide) 16 rfl (fun hc => ?_) (fun hc => ?_)
  · have hf := (if_pos hc).symm.trans hf
    refine x_lv [1] (lv' := [(1, .int (a.1))]) rfl ?_
    exact hx0 _ (Option.some.inj hf).symm
  · have hf := (if_neg hc).symm.trans hf
    refine x_aload_n C dX5_leastOpen_16 17 rfl 0 rfl rfl ?_
    refine x_iload_n C dX5_leastOpen_17 18 rfl 2 rfl rfl ?_
    obtain ⟨o18, ho18, hf⟩ := x_bind hf
    obtain ⟨w18, hw18, hf⟩ := x_bind hf
    refine x_callVi C dX5_leastOpen_18 21 rfl ho18 cl5.1 rfl (cX5_isClosedc hw18) kX5_isClosed kvX5_isClosed w1003 ⟨rfl, rfl⟩ ⟨Nat.le_of_ble_eq_true rfl, Nat.le_of_ble_eq_true rfl⟩ ⟨Nat.zero_le _, Nat.zero_le _⟩ rfl rfl (Nat.le_of_ble_eq_true rfl) ?_
    refine x_if_ne C dX5_leastOpen_21 53 (by decide) 24 rfl (fun hc => ?_) (fun hc => ?_)
    · have hf := (if_neg hc).symm.trans hf
      obtain ⟨v53, ev53, hf⟩ := xlet_some hf
      refine x_iinc C dX5_leastOpen_53 56 rfl 2 rfl v53 ev53 rfl [(2, .int (v53)), (0, .ref (x0)), (1, .int (a.1))] rfl ?_
      refine x_goto C dX5_leastOpen_56 8 (by decide) ?_
      refine x_lv [1, 2, 0] (lv' := [(0, .ref (x0)), (1, .int (a.1)), (2, .int (v53))]) rfl ?_
      exact hK _ (Option.some.inj hf).symm
    · have hf := (if_pos hc).symm.trans hf
      refine x_iload_n C dX5_leastOpen_24 25 rfl 1 rfl rfl ?_
      refine x_iconst C dX5_leastOpen_25 26 rfl (-1) (by decide) ?_
      refine x_icmp_eq C dX5_leastOpen_26 51 (by decide) 29 rfl (fun hc => ?_) (fun hc => ?_)
      · have hf := (if_pos hc).symm.trans hf
        refine x_iload_n C dX5_leastOpen_51 52 rfl 2 rfl rfl ?_
        refine x_istore_n C dX5_leastOpen_52 53 rfl rfl rfl [(1, .int (a.2.1)), (0, .ref (x0)), (2, .int (a.2.1))] rfl ?_
        obtain ⟨v53, ev53, hf⟩ := xlet_some hf
        refine x_iinc C dX5_leastOpen_53 56 rfl 2 rfl v53 ev53 rfl [(2, .int (v53)), (1, .int (a.2.1)), (0, .ref (x0))] rfl ?_
        refine x_goto C dX5_leastOpen_56 8 (by decide) ?_
        refine x_lv [2, 1, 0] (lv' := [(0, .ref (x0)), (1, .int (a.2.1)), (2, .int (v53))]) rfl ?_
        exact hK _ (Option.some.inj hf).symm
      · have hf := (if_neg hc).symm.trans hf
        refine x_aload_n C dX5_leastOpen_29 30 rfl 0 rfl rfl ?_
        obtain ⟨v30, hv30, hf⟩ := x_bind hf
        refine x_getR C dX5_leastOpen_30 33 rfl hv30 cl5 rfl w337 ?_
        refine x_aload_n C dX5_leastOpen_33 34 rfl 0 rfl rfl ?_
        obtain ⟨v34, hv34, hf⟩ := x_bind hf
        refine x_getR C dX5_leastOpen_34 37 rfl hv34 cl5 rfl w339 ?_
        refine x_iload_n C dX5_leastOpen_37 38 rfl 2 rfl rfl ?_
        obtain ⟨v38, hv38, hf⟩ := x_bind hf
        refine x_laload C dX5_leastOpen_38 39 rfl hv38 ?_
        refine x_aload_n C dX5_leastOpen_39 40 rfl 0 rfl rfl ?_
        obtain ⟨v40, hv40, hf⟩ := x_bind hf
        refine x_getR C dX5_leastOpen_40 43 rfl hv40 cl5 rfl w339 ?_
        refine x_iload_n C dX5_leastOpen_43 44 rfl 1 rfl rfl ?_
        obtain ⟨v44, hv44, hf⟩ := x_bind hf
        refine x_laload C dX5_leastOpen_44 45 rfl hv44 ?_
        obtain ⟨o45, ho45, hf⟩ := x_bind hf
        obtain ⟨w45, hw45, hf⟩ := x_bind hf
        refine x_callVi C dX5_leastOpen_45 48 rfl ho45 cl8.1 rfl (cX8_orderc hw45) kX8_order kvX8_order w1318 ⟨rfl, rfl⟩ ⟨Nat.le_of_ble_eq_true rfl, Nat.le_of_ble_eq_true rfl⟩ ⟨Nat.zero_le _, Nat.zero_le _⟩ rfl rfl (Nat.le_of_ble_eq_true rfl) ?_
        refine x_if_ge C dX5_leastOpen_48 53 (by decide) 51 rfl (fun hc => ?_) (fun hc => ?_)
        · have hf := (if_pos hc).symm.trans hf
          obtain ⟨v53, ev53, hf⟩ := xlet_some hf
          refine x_iinc C dX5_leastOpen_53 56 rfl 2 rfl v53 ev53 rfl [(2, .int (v53)), (0, .ref (x0)), (1, .int (a.1))] rfl ?_
          refine x_goto C dX5_leastOpen_56 8 (by decide) ?_
          refine x_lv [1, 2, 0] (lv' := [(0, .ref (x0)), (1, .int (a.1)), (2, .int (v53))]) rfl ?_
          exact hK _ (Option.some.inj hf).symm
        · have hf := (if_neg hc).symm.trans hf
          refine x_iload_n C dX5_leastOpen_51 52 rfl 2 rfl rfl ?_
          refine x_istore_n C dX5_leastOpen_52 53 rfl rfl rfl [(1, .int (a.2.1)), (0, .ref (x0)), (2, .int (a.2.1))] rfl ?_
          obtain ⟨v53, ev53, hf⟩ := xlet_some hf
          refine x_iinc C dX5_leastOpen_53 56 rfl 2 rfl v53 ev53 rfl [(2, .int (v53)), (1, .int (a.2.1)), (0, .ref (x0))] rfl ?_
          refine x_goto C dX5_leastOpen_56 8 (by decide) ?_
          refine x_lv [2, 1, 0] (lv' := [(0, .ref (x0)), (1, .int (a.2.1)), (2, .int (v53))]) rfl ?_
          exact hK _ (Option.some.inj hf).symm
noncomputable def fX5_leastOpen (σ : St) (x0 : Nat) : Option ((Int32 × St)) :=
(isO σ x0 5).bind fun _ =>
(fX5_gather σ x0).bind fun w1 =>
(iterP (fLX5_leastOpen_8 x0) ((-1), 0, w1)).bind fun b8 =>
some (b8.1, b8.2)
set_option maxHeartbeats 4000000 in
set_option maxRecDepth 100000 in
theorem cX5_leastOpenc {l : Launch} {G : xG} {A : Nat → Prop} {σ : St} {x0 : Nat} {c : (Int32 × St)} (hf : fX5_leastOpen σ x0 = some c) : Con l yX5_leastOpen (xws yX5_leastOpen cX5_leastOpen 3 (some .int)) rmX5_leastOpen [.ref (x0)] G A σ (some (.int c.1)) c.2 := by
  refine x_start rfl (Nat.le_of_ble_eq_true rfl) (fun X _ _ _ C hE0 => ?_)
  have hE : ∀ r, c = r → xE1 X (some (.int r.1)) r.2 := fun r e => e ▸ hE0
  show V X (0, 0) σ 0 [(0, .ref (x0))] []
  unfold fX5_leastOpen at hf
  refine x_aload_n C dX5_leastOpen_0 1 rfl 0 rfl rfl ?_
  obtain ⟨o1, ho1, hf⟩ := x_bind hf
  obtain ⟨w1, hw1, hf⟩ := x_bind hf
  refine x_callVv C dX5_leastOpen_1 4 rfl ho1 cl5.1 rfl (cX5_gatherc hw1) kX5_gather kvX5_gather w1002 ⟨rfl, rfl⟩ ⟨Nat.le_of_ble_eq_true rfl, Nat.le_of_ble_eq_true rfl⟩ ⟨Nat.zero_le _, Nat.zero_le _⟩ rfl rfl (Nat.le_of_ble_eq_true rfl) ?_
  refine x_iconst C dX5_leastOpen_4 5 rfl (-1) (by decide) ?_
  refine x_istore_n C dX5_leastOpen_5 6 rfl rfl rfl [(1, .int ((-1))), (0, .ref (x0))] rfl ?_
  refine x_iconst C dX5_leastOpen_6 7 rfl 0 (by decide) ?_
  refine x_istore_n C dX5_leastOpen_7 8 rfl rfl rfl [(2, .int (0)), (1, .int ((-1))), (0, .ref (x0))] rfl ?_
  obtain ⟨b8, hb8, hf⟩ := x_bind hf
  refine x_lv [2, 1, 0] (lv' := [(0, .ref (x0)), (1, .int ((-1))), (2, .int (0))]) rfl ?_
  refine lpX5_leastOpen_8 C hb8 (fun s8 e8 => ?_)
  subst e8
  refine x_iload_n C dX5_leastOpen_59 60 rfl 0 rfl rfl ?_
  exact x_iret C (hE _ (Option.some.inj hf).symm) dX5_leastOpen_60
theorem dX5_openOnes_0 : decode cX5_openOnes 0 = .ok (.aload_n 0, 1) := by decide +kernel
theorem dX5_openOnes_1 : decode cX5_openOnes 1 = .ok (.invokevirtual 110, 3) := by decide +kernel
theorem dX5_openOnes_4 : decode cX5_openOnes 4 = .ok (.iconst 0, 1) := by decide +kernel
theorem dX5_openOnes_5 : decode cX5_openOnes 5 = .ok (.istore_n 1, 1) := by decide +kernel
theorem dX5_openOnes_6 : decode cX5_openOnes 6 = .ok (.iconst 0, 1) := by decide +kernel
theorem dX5_openOnes_7 : decode cX5_openOnes 7 = .ok (.istore_n 2, 1) := by decide +kernel
theorem dX5_openOnes_8 : decode cX5_openOnes 8 = .ok (.iload_n 2, 1) := by decide +kernel
theorem dX5_openOnes_9 : decode cX5_openOnes 9 = .ok (.aload_n 0, 1) := by decide +kernel
theorem dX5_openOnes_10 : decode cX5_openOnes 10 = .ok (.getfield 23, 3) := by decide +kernel
theorem dX5_openOnes_13 : decode cX5_openOnes 13 = .ok (.if_icmp .ge 20, 3) := by decide +kernel
theorem dX5_openOnes_16 : decode cX5_openOnes 16 = .ok (.aload_n 0, 1) := by decide +kernel
theorem dX5_openOnes_17 : decode cX5_openOnes 17 = .ok (.iload_n 2, 1) := by decide +kernel
theorem dX5_openOnes_18 : decode cX5_openOnes 18 = .ok (.invokevirtual 113, 3) := by decide +kernel
theorem dX5_openOnes_21 : decode cX5_openOnes 21 = .ok (.ifCond .ne 6, 3) := by decide +kernel
theorem dX5_openOnes_24 : decode cX5_openOnes 24 = .ok (.iinc 1 1, 3) := by decide +kernel
theorem dX5_openOnes_27 : decode cX5_openOnes 27 = .ok (.iinc 2 1, 3) := by decide +kernel
theorem dX5_openOnes_30 : decode cX5_openOnes 30 = .ok (.goto (-22), 3) := by decide +kernel
theorem dX5_openOnes_33 : decode cX5_openOnes 33 = .ok (.iload_n 1, 1) := by decide +kernel
theorem dX5_openOnes_34 : decode cX5_openOnes 34 = .ok (.ireturn, 1) := by decide +kernel
abbrev rmX5_openOnes : Room := { frames := 6, cells := 0, slots := 0, locals := 189 }
noncomputable def fLX5_openOnes_8 (x0 : Nat) (a : Int32 × Int32 × St) : Option ((Int32 × Int32 × St) ⊕ (Int32 × St)) :=
(gI a.2.2 x0 5 5).bind fun v10 =>
if v10 ≤ a.2.1 then
(some (Sum.inr (a.1, a.2.2)))
else
((isO a.2.2 x0 5).bind fun _ =>
(fX5_isClosed a.2.2 x0 a.2.1).bind fun w18 =>
if w18.1 = 0 then
(xlet (a.1 + 1) fun v24 =>
xlet (a.2.1 + 1) fun v27 =>
some (Sum.inl (v24, v27, w18.2)))
else
(xlet (a.2.1 + 1) fun v27 =>
some (Sum.inl (a.1, v27, w18.2))))
set_option maxHeartbeats 4000000 in
set_option maxRecDepth 100000 in
theorem lpX5_openOnes_8 {X : xX} {x0 : Nat}  {a0 : Int32 × Int32 × St} {b : Int32 × St} (C : Ok X cX5_openOnes 3 RX5 rmX5_openOnes (some .int)) (hb : iterP (fLX5_openOnes_8 x0) a0 = some b) (hy0 : ∀ s, b = s → V X (0, 0) s.2 33 [(1, .int (s.1))] []) : V X (0, 0) a0.2.2 8 [(0, .ref (x0)), (1, .int (a0.1)), (2, .int (a0.2.1))] [] := by
  obtain ⟨n, hn⟩ := iterP_some hb
  refine x_loop (P := fun a => V X (0, 0) a.2.2 8 [(0, .ref (x0)), (1, .int (a.1)), (2, .int (a.2.1))] []) ?_ n a0 hn
  intro a c hf hK hxx
  have hx0 : ∀ s, c = Sum.inr s → V X (0, 0) s.2 33 [(1, .int (s.1))] [] := fun s e => hy0 s (hxx _ e).symm
  unfold fLX5_openOnes_8 at hf
  refine x_iload_n C dX5_openOnes_8 9 rfl 2 rfl rfl ?_
  refine x_aload_n C dX5_openOnes_9 10 rfl 0 rfl rfl ?_
  obtain ⟨v10, hv10, hf⟩ := x_bind hf
  refine x_getI C dX5_openOnes_10 13 rfl hv10 cl5 rfl w343 ?_
  refine x_icmp_ge C dX5_openOnes_13 33 (by decide) 16 rfl (fun hc => ?_) (fun hc => ?_)
  · have hf := (if_pos hc).symm.trans hf
    refine x_lv [1] (lv' := [(1, .int (a.1))]) rfl ?_
    exact hx0 _ (Option.some.inj hf).symm
  · have hf := (if_neg hc).symm.trans hf
    refine x_aload_n C dX5_openOnes_16 17 rfl 0 rfl rfl ?_
    refine x_iload_n C dX5_openOnes_17 18 rfl 2 rfl rfl ?_
    obtain ⟨o18, ho18, hf⟩ := x_bind hf
    obtain ⟨w18, hw18, hf⟩ := x_bind hf
    refine x_callVi C dX5_openOnes_18 21 rfl ho18 cl5.1 rfl (cX5_isClosedc hw18) kX5_isClosed kvX5_isClosed w1003 ⟨rfl, rfl⟩ ⟨Nat.le_of_ble_eq_true rfl, Nat.le_of_ble_eq_true rfl⟩ ⟨Nat.zero_le _, Nat.zero_le _⟩ rfl rfl (Nat.le_of_ble_eq_true rfl) ?_
    refine x_if_ne C dX5_openOnes_21 27 (by decide) 24 rfl (fun hc => ?_) (fun hc => ?_)
    · have hf := (if_neg hc).symm.trans hf
      obtain ⟨v27, ev27, hf⟩ := xlet_some hf
      refine x_iinc C dX5_openOnes_27 30 rfl 2 rfl v27 ev27 rfl [(2, .int (v27)), (0, .ref (x0)), (1, .int (a.1))] rfl ?_
      refine x_goto C dX5_openOnes_30 8 (by decide) ?_
      refine x_lv [1, 2, 0] (lv' := [(0, .ref (x0)), (1, .int (a.1)), (2, .int (v27))]) rfl ?_
      exact hK _ (Option.some.inj hf).symm
    · have hf := (if_pos hc).symm.trans hf
      obtain ⟨v24, ev24, hf⟩ := xlet_some hf
      refine x_iinc C dX5_openOnes_24 27 rfl 1 rfl v24 ev24 rfl [(1, .int (v24)), (0, .ref (x0)), (2, .int (a.2.1))] rfl ?_
      obtain ⟨v27, ev27, hf⟩ := xlet_some hf
      refine x_iinc C dX5_openOnes_27 30 rfl 2 rfl v27 ev27 rfl [(2, .int (v27)), (1, .int (v24)), (0, .ref (x0))] rfl ?_
      refine x_goto C dX5_openOnes_30 8 (by decide) ?_
      refine x_lv [2, 1, 0] (lv' := [(0, .ref (x0)), (1, .int (v24)), (2, .int (v27))]) rfl ?_
      exact hK _ (Option.some.inj hf).symm
noncomputable def fX5_openOnes (σ : St) (x0 : Nat) : Option ((Int32 × St)) :=
(isO σ x0 5).bind fun _ =>
(fX5_gather σ x0).bind fun w1 =>
(iterP (fLX5_openOnes_8 x0) (0, 0, w1)).bind fun b8 =>
some (b8.1, b8.2)
set_option maxHeartbeats 4000000 in
set_option maxRecDepth 100000 in
theorem cX5_openOnesc {l : Launch} {G : xG} {A : Nat → Prop} {σ : St} {x0 : Nat} {c : (Int32 × St)} (hf : fX5_openOnes σ x0 = some c) : Con l yX5_openOnes (xws yX5_openOnes cX5_openOnes 3 (some .int)) rmX5_openOnes [.ref (x0)] G A σ (some (.int c.1)) c.2 := by
  refine x_start rfl (Nat.le_of_ble_eq_true rfl) (fun X _ _ _ C hE0 => ?_)
  have hE : ∀ r, c = r → xE1 X (some (.int r.1)) r.2 := fun r e => e ▸ hE0
  show V X (0, 0) σ 0 [(0, .ref (x0))] []
  unfold fX5_openOnes at hf
  refine x_aload_n C dX5_openOnes_0 1 rfl 0 rfl rfl ?_
  obtain ⟨o1, ho1, hf⟩ := x_bind hf
  obtain ⟨w1, hw1, hf⟩ := x_bind hf
  refine x_callVv C dX5_openOnes_1 4 rfl ho1 cl5.1 rfl (cX5_gatherc hw1) kX5_gather kvX5_gather w1002 ⟨rfl, rfl⟩ ⟨Nat.le_of_ble_eq_true rfl, Nat.le_of_ble_eq_true rfl⟩ ⟨Nat.zero_le _, Nat.zero_le _⟩ rfl rfl (Nat.le_of_ble_eq_true rfl) ?_
  refine x_iconst C dX5_openOnes_4 5 rfl 0 (by decide) ?_
  refine x_istore_n C dX5_openOnes_5 6 rfl rfl rfl [(1, .int (0)), (0, .ref (x0))] rfl ?_
  refine x_iconst C dX5_openOnes_6 7 rfl 0 (by decide) ?_
  refine x_istore_n C dX5_openOnes_7 8 rfl rfl rfl [(2, .int (0)), (1, .int (0)), (0, .ref (x0))] rfl ?_
  obtain ⟨b8, hb8, hf⟩ := x_bind hf
  refine x_lv [2, 1, 0] (lv' := [(0, .ref (x0)), (1, .int (0)), (2, .int (0))]) rfl ?_
  refine lpX5_openOnes_8 C hb8 (fun s8 e8 => ?_)
  subst e8
  refine x_iload_n C dX5_openOnes_33 34 rfl 0 rfl rfl ?_
  exact x_iret C (hE _ (Option.some.inj hf).symm) dX5_openOnes_34
theorem dX6_slotOf_0 : decode cX6_slotOf 0 = .ok (.lload_n 1, 1) := by decide +kernel
theorem dX6_slotOf_1 : decode cX6_slotOf 1 = .ok (.lload_n 1, 1) := by decide +kernel
theorem dX6_slotOf_2 : decode cX6_slotOf 2 = .ok (.bipush 9, 2) := by decide +kernel
theorem dX6_slotOf_4 : decode cX6_slotOf 4 = .ok (.lushr, 1) := by decide +kernel
theorem dX6_slotOf_5 : decode cX6_slotOf 5 = .ok (.lxor, 1) := by decide +kernel
theorem dX6_slotOf_6 : decode cX6_slotOf 6 = .ok (.lload_n 1, 1) := by decide +kernel
theorem dX6_slotOf_7 : decode cX6_slotOf 7 = .ok (.bipush 20, 2) := by decide +kernel
theorem dX6_slotOf_9 : decode cX6_slotOf 9 = .ok (.lushr, 1) := by decide +kernel
theorem dX6_slotOf_10 : decode cX6_slotOf 10 = .ok (.lxor, 1) := by decide +kernel
theorem dX6_slotOf_11 : decode cX6_slotOf 11 = .ok (.lload_n 1, 1) := by decide +kernel
theorem dX6_slotOf_12 : decode cX6_slotOf 12 = .ok (.bipush 37, 2) := by decide +kernel
theorem dX6_slotOf_14 : decode cX6_slotOf 14 = .ok (.lushr, 1) := by decide +kernel
theorem dX6_slotOf_15 : decode cX6_slotOf 15 = .ok (.lxor, 1) := by decide +kernel
theorem dX6_slotOf_16 : decode cX6_slotOf 16 = .ok (.l2i, 1) := by decide +kernel
theorem dX6_slotOf_17 : decode cX6_slotOf 17 = .ok (.sipush 511, 3) := by decide +kernel
theorem dX6_slotOf_20 : decode cX6_slotOf 20 = .ok (.iand, 1) := by decide +kernel
theorem dX6_slotOf_21 : decode cX6_slotOf 21 = .ok (.istore_n 3, 1) := by decide +kernel
theorem dX6_slotOf_22 : decode cX6_slotOf 22 = .ok (.iconst 0, 1) := by decide +kernel
theorem dX6_slotOf_23 : decode cX6_slotOf 23 = .ok (.istore 4, 2) := by decide +kernel
theorem dX6_slotOf_25 : decode cX6_slotOf 25 = .ok (.iload 4, 2) := by decide +kernel
theorem dX6_slotOf_27 : decode cX6_slotOf 27 = .ok (.sipush 512, 3) := by decide +kernel
theorem dX6_slotOf_30 : decode cX6_slotOf 30 = .ok (.if_icmp .ge 46, 3) := by decide +kernel
theorem dX6_slotOf_33 : decode cX6_slotOf 33 = .ok (.aload_n 0, 1) := by decide +kernel
theorem dX6_slotOf_34 : decode cX6_slotOf 34 = .ok (.getfield 32, 3) := by decide +kernel
theorem dX6_slotOf_37 : decode cX6_slotOf 37 = .ok (.iload_n 3, 1) := by decide +kernel
theorem dX6_slotOf_38 : decode cX6_slotOf 38 = .ok (.iaload, 1) := by decide +kernel
theorem dX6_slotOf_39 : decode cX6_slotOf 39 = .ok (.ifCond .eq 21, 3) := by decide +kernel
theorem dX6_slotOf_42 : decode cX6_slotOf 42 = .ok (.aload_n 0, 1) := by decide +kernel
theorem dX6_slotOf_43 : decode cX6_slotOf 43 = .ok (.getfield 11, 3) := by decide +kernel
theorem dX6_slotOf_46 : decode cX6_slotOf 46 = .ok (.aload_n 0, 1) := by decide +kernel
theorem dX6_slotOf_47 : decode cX6_slotOf 47 = .ok (.getfield 32, 3) := by decide +kernel
theorem dX6_slotOf_50 : decode cX6_slotOf 50 = .ok (.iload_n 3, 1) := by decide +kernel
theorem dX6_slotOf_51 : decode cX6_slotOf 51 = .ok (.iaload, 1) := by decide +kernel
theorem dX6_slotOf_52 : decode cX6_slotOf 52 = .ok (.iconst 1, 1) := by decide +kernel
theorem dX6_slotOf_53 : decode cX6_slotOf 53 = .ok (.isub, 1) := by decide +kernel
theorem dX6_slotOf_54 : decode cX6_slotOf 54 = .ok (.laload, 1) := by decide +kernel
theorem dX6_slotOf_55 : decode cX6_slotOf 55 = .ok (.lload_n 1, 1) := by decide +kernel
theorem dX6_slotOf_56 : decode cX6_slotOf 56 = .ok (.lcmp, 1) := by decide +kernel
theorem dX6_slotOf_57 : decode cX6_slotOf 57 = .ok (.ifCond .ne 5, 3) := by decide +kernel
theorem dX6_slotOf_60 : decode cX6_slotOf 60 = .ok (.iload_n 3, 1) := by decide +kernel
theorem dX6_slotOf_61 : decode cX6_slotOf 61 = .ok (.ireturn, 1) := by decide +kernel
theorem dX6_slotOf_62 : decode cX6_slotOf 62 = .ok (.iload_n 3, 1) := by decide +kernel
theorem dX6_slotOf_63 : decode cX6_slotOf 63 = .ok (.iconst 1, 1) := by decide +kernel
theorem dX6_slotOf_64 : decode cX6_slotOf 64 = .ok (.iadd, 1) := by decide +kernel
theorem dX6_slotOf_65 : decode cX6_slotOf 65 = .ok (.sipush 511, 3) := by decide +kernel
theorem dX6_slotOf_68 : decode cX6_slotOf 68 = .ok (.iand, 1) := by decide +kernel
theorem dX6_slotOf_69 : decode cX6_slotOf 69 = .ok (.istore_n 3, 1) := by decide +kernel
theorem dX6_slotOf_70 : decode cX6_slotOf 70 = .ok (.iinc 4 1, 3) := by decide +kernel
theorem dX6_slotOf_73 : decode cX6_slotOf 73 = .ok (.goto (-48), 3) := by decide +kernel
theorem dX6_slotOf_76 : decode cX6_slotOf 76 = .ok (.iload_n 3, 1) := by decide +kernel
theorem dX6_slotOf_77 : decode cX6_slotOf 77 = .ok (.ireturn, 1) := by decide +kernel
abbrev rmX6_slotOf : Room := { frames := 0, cells := 0, slots := 0, locals := 0 }
noncomputable def fLX6_slotOf_25 (σ : St) (x0 : Nat) (x1 : Int64) (a : Int32 × Int32) : Option ((Int32 × Int32) ⊕ ((Int32) ⊕ (Int32))) :=
if ((512 : Int32)) ≤ a.2 then
(some (Sum.inr (Sum.inr a.1)))
else
((gR σ x0 6 8).bind fun v34 =>
(aI σ v34 0 a.1).bind fun v38 =>
if v38 = 0 then
(some (Sum.inr (Sum.inl a.1)))
else
((gR σ x0 6 2).bind fun v43 =>
(gR σ x0 6 8).bind fun v47 =>
(aI σ v47 0 a.1).bind fun v51 =>
(aL σ v43 (v51 - 1)).bind fun v54 =>
if (lg_cmp v54 x1) = 0 then
(some (Sum.inr (Sum.inl a.1)))
else
(xlet ((a.1 + 1) &&& 511) fun v69 =>
xlet (a.2 + 1) fun v70 =>
some (Sum.inl (v69, v70)))))
set_option maxHeartbeats 4000000 in
set_option maxRecDepth 100000 in
theorem lpX6_slotOf_25 {X : xX} {σ : St} {x0 : Nat} {x1 : Int64}  {a0 : Int32 × Int32} {b : (Int32) ⊕ (Int32)} (C : Ok X cX6_slotOf 5 RX6 rmX6_slotOf (some .int)) (hb : iterP (fLX6_slotOf_25 σ x0 x1) a0 = some b) (hy0 : ∀ s, b = (Sum.inl s) → V X (0, 0) σ 60 [(3, .int (s))] []) (hy1 : ∀ s, b = (Sum.inr s) → V X (0, 0) σ 76 [(3, .int (s))] []) : V X (0, 0) σ 25 [(0, .ref (x0)), (1, .long (x1)), (3, .int (a0.1)), (4, .int (a0.2))] [] := by
  obtain ⟨n, hn⟩ := iterP_some hb
  refine x_loop (P := fun a => V X (0, 0) σ 25 [(0, .ref (x0)), (1, .long (x1)), (3, .int (a.1)), (4, .int (a.2))] []) ?_ n a0 hn
  intro a c hf hK hxx
  have hx0 : ∀ s, c = Sum.inr (Sum.inl s) → V X (0, 0) σ 60 [(3, .int (s))] [] := fun s e => hy0 s (hxx _ e).symm
  have hx1 : ∀ s, c = Sum.inr (Sum.inr s) → V X (0, 0) σ 76 [(3, .int (s))] [] := fun s e => hy1 s (hxx _ e).symm
  unfold fLX6_slotOf_25 at hf
  refine x_iload C dX6_slotOf_25 27 rfl 3 rfl ?_
  refine x_sipush C dX6_slotOf_27 30 rfl 512 (by decide) ?_
  refine x_icmp_ge C dX6_slotOf_30 76 (by decide) 33 rfl (fun hc => ?_) (fun hc => ?_)
  · have hf := (if_pos hc).symm.trans hf
    refine x_lv [2] (lv' := [(3, .int (a.1))]) rfl ?_
    exact hx1 _ (Option.some.inj hf).symm
  · have hf := (if_neg hc).symm.trans hf
    refine x_aload_n C dX6_slotOf_33 34 rfl 0 rfl rfl ?_
    obtain ⟨v34, hv34, hf⟩ := x_bind hf
    refine x_getR C dX6_slotOf_34 37 rfl hv34 cl6 rfl w382 ?_
    refine x_iload_n C dX6_slotOf_37 38 rfl 2 rfl rfl ?_
    obtain ⟨v38, hv38, hf⟩ := x_bind hf
    refine x_iaload C dX6_slotOf_38 39 rfl hv38 ?_
    refine x_if_eq C dX6_slotOf_39 60 (by decide) 42 rfl (fun hc => ?_) (fun hc => ?_)
    · have hf := (if_pos hc).symm.trans hf
      refine x_lv [2] (lv' := [(3, .int (a.1))]) rfl ?_
      exact hx0 _ (Option.some.inj hf).symm
    · have hf := (if_neg hc).symm.trans hf
      refine x_aload_n C dX6_slotOf_42 43 rfl 0 rfl rfl ?_
      obtain ⟨v43, hv43, hf⟩ := x_bind hf
      refine x_getR C dX6_slotOf_43 46 rfl hv43 cl6 rfl w370 ?_
      refine x_aload_n C dX6_slotOf_46 47 rfl 0 rfl rfl ?_
      obtain ⟨v47, hv47, hf⟩ := x_bind hf
      refine x_getR C dX6_slotOf_47 50 rfl hv47 cl6 rfl w382 ?_
      refine x_iload_n C dX6_slotOf_50 51 rfl 2 rfl rfl ?_
      obtain ⟨v51, hv51, hf⟩ := x_bind hf
      refine x_iaload C dX6_slotOf_51 52 rfl hv51 ?_
      refine x_iconst C dX6_slotOf_52 53 rfl 1 (by decide) ?_
      refine x_isub C dX6_slotOf_53 54 rfl ?_
      obtain ⟨v54, hv54, hf⟩ := x_bind hf
      refine x_laload C dX6_slotOf_54 55 rfl hv54 ?_
      refine x_lload_n C dX6_slotOf_55 56 rfl 1 rfl rfl ?_
      refine x_lcmp C dX6_slotOf_56 57 rfl ?_
      refine x_if_ne C dX6_slotOf_57 62 (by decide) 60 rfl (fun hc => ?_) (fun hc => ?_)
      · have hf := (if_neg hc).symm.trans hf
        refine x_iload_n C dX6_slotOf_62 63 rfl 2 rfl rfl ?_
        refine x_iconst C dX6_slotOf_63 64 rfl 1 (by decide) ?_
        refine x_iadd C dX6_slotOf_64 65 rfl ?_
        refine x_sipush C dX6_slotOf_65 68 rfl 511 (by decide) ?_
        refine x_iand C dX6_slotOf_68 69 rfl ?_
        obtain ⟨v69, ev69, hf⟩ := xlet_some hf
        refine x_topi ev69 ?_
        refine x_istore_n C dX6_slotOf_69 70 rfl rfl rfl [(3, .int (v69)), (0, .ref (x0)), (1, .long (x1)), (4, .int (a.2))] rfl ?_
        obtain ⟨v70, ev70, hf⟩ := xlet_some hf
        refine x_iinc C dX6_slotOf_70 73 rfl 3 rfl v70 ev70 rfl [(4, .int (v70)), (3, .int (v69)), (0, .ref (x0)), (1, .long (x1))] rfl ?_
        refine x_goto C dX6_slotOf_73 25 (by decide) ?_
        refine x_lv [2, 3, 1, 0] (lv' := [(0, .ref (x0)), (1, .long (x1)), (3, .int (v69)), (4, .int (v70))]) rfl ?_
        exact hK _ (Option.some.inj hf).symm
      · have hf := (if_pos hc).symm.trans hf
        refine x_lv [2] (lv' := [(3, .int (a.1))]) rfl ?_
        exact hx0 _ (Option.some.inj hf).symm
noncomputable def fX6_slotOf (σ : St) (x0 : Nat) (x1 : Int64) : Option (Int32) :=
xlet (((((x1 ^^^ ((x1.toUInt64 >>> ((9 : Int32).toInt64.toUInt64 &&& Int64.toUInt64 63)).toInt64)) ^^^ ((x1.toUInt64 >>> ((20 : Int32).toInt64.toUInt64 &&& Int64.toUInt64 63)).toInt64)) ^^^ ((x1.toUInt64 >>> ((37 : Int32).toInt64.toUInt64 &&& Int64.toUInt64 63)).toInt64)).toInt32) &&& 511) fun v21 =>
(iterP (fLX6_slotOf_25 σ x0 x1) (v21, 0)).bind fun b25 =>
(match b25 with
| .inl s25 =>
some s25
| .inr s25 =>
some s25)
set_option maxHeartbeats 4000000 in
set_option maxRecDepth 100000 in
theorem cX6_slotOfc {l : Launch} {G : xG} {A : Nat → Prop} {σ : St} {x0 : Nat} {x1 : Int64} {c : Int32} (hf : fX6_slotOf σ x0 x1 = some c) : Con l yX6_slotOf (xws yX6_slotOf cX6_slotOf 5 (some .int)) rmX6_slotOf [.ref (x0), .long (x1)] G A σ (some (.int c)) σ := by
  refine x_start rfl (Nat.le_of_ble_eq_true rfl) (fun X _ _ _ C hE0 => ?_)
  have hE : ∀ r, c = r → xE1 X (some (.int r)) σ := fun r e => e ▸ hE0
  show V X (0, 0) σ 0 [(0, .ref (x0)), (1, .long (x1))] []
  unfold fX6_slotOf at hf
  refine x_lload_n C dX6_slotOf_0 1 rfl 1 rfl rfl ?_
  refine x_lload_n C dX6_slotOf_1 2 rfl 1 rfl rfl ?_
  refine x_bipush C dX6_slotOf_2 4 rfl 9 (by decide) ?_
  refine x_lushr C dX6_slotOf_4 5 rfl ?_
  refine x_lxor C dX6_slotOf_5 6 rfl ?_
  refine x_lload_n C dX6_slotOf_6 7 rfl 1 rfl rfl ?_
  refine x_bipush C dX6_slotOf_7 9 rfl 20 (by decide) ?_
  refine x_lushr C dX6_slotOf_9 10 rfl ?_
  refine x_lxor C dX6_slotOf_10 11 rfl ?_
  refine x_lload_n C dX6_slotOf_11 12 rfl 1 rfl rfl ?_
  refine x_bipush C dX6_slotOf_12 14 rfl 37 (by decide) ?_
  refine x_lushr C dX6_slotOf_14 15 rfl ?_
  refine x_lxor C dX6_slotOf_15 16 rfl ?_
  refine x_l2i C dX6_slotOf_16 17 rfl ?_
  refine x_sipush C dX6_slotOf_17 20 rfl 511 (by decide) ?_
  refine x_iand C dX6_slotOf_20 21 rfl ?_
  obtain ⟨v21, ev21, hf⟩ := xlet_some hf
  refine x_topi ev21 ?_
  refine x_istore_n C dX6_slotOf_21 22 rfl rfl rfl [(3, .int (v21)), (0, .ref (x0)), (1, .long (x1))] rfl ?_
  refine x_iconst C dX6_slotOf_22 23 rfl 0 (by decide) ?_
  refine x_istore C dX6_slotOf_23 25 rfl rfl [(4, .int (0)), (3, .int (v21)), (0, .ref (x0)), (1, .long (x1))] rfl ?_
  obtain ⟨b25, hb25, hf⟩ := x_bind hf
  refine x_lv [2, 3, 1, 0] (lv' := [(0, .ref (x0)), (1, .long (x1)), (3, .int (v21)), (4, .int (0))]) rfl ?_
  refine lpX6_slotOf_25 C hb25 (fun s25 e25 => ?_) (fun s25 e25 => ?_)
  · subst e25
    try dsimp only at hf
    refine x_iload_n C dX6_slotOf_60 61 rfl 0 rfl rfl ?_
    exact x_iret C (hE _ (Option.some.inj hf).symm) dX6_slotOf_61
  · subst e25
    try dsimp only at hf
    refine x_iload_n C dX6_slotOf_76 77 rfl 0 rfl rfl ?_
    exact x_iret C (hE _ (Option.some.inj hf).symm) dX6_slotOf_77
theorem dX6_add_0 : decode cX6_add 0 = .ok (.iload_n 3, 1) := by decide +kernel
theorem dX6_add_1 : decode cX6_add 1 = .ok (.ifCond .le 27, 3) := by decide +kernel
theorem dX6_add_4 : decode cX6_add 4 = .ok (.aload_n 0, 1) := by decide +kernel
theorem dX6_add_5 : decode cX6_add 5 = .ok (.getfield 29, 3) := by decide +kernel
theorem dX6_add_8 : decode cX6_add 8 = .ok (.iconst (-1), 1) := by decide +kernel
theorem dX6_add_9 : decode cX6_add 9 = .ok (.if_icmp .ne 19, 3) := by decide +kernel
theorem dX6_add_12 : decode cX6_add 12 = .ok (.lload_n 1, 1) := by decide +kernel
theorem dX6_add_13 : decode cX6_add 13 = .ok (.aload_n 0, 1) := by decide +kernel
theorem dX6_add_14 : decode cX6_add 14 = .ok (.getfield 11, 3) := by decide +kernel
theorem dX6_add_17 : decode cX6_add 17 = .ok (.iconst 0, 1) := by decide +kernel
theorem dX6_add_18 : decode cX6_add 18 = .ok (.laload, 1) := by decide +kernel
theorem dX6_add_19 : decode cX6_add 19 = .ok (.lcmp, 1) := by decide +kernel
theorem dX6_add_20 : decode cX6_add 20 = .ok (.ifCond .ne 8, 3) := by decide +kernel
theorem dX6_add_23 : decode cX6_add 23 = .ok (.aload_n 0, 1) := by decide +kernel
theorem dX6_add_24 : decode cX6_add 24 = .ok (.iload_n 3, 1) := by decide +kernel
theorem dX6_add_25 : decode cX6_add 25 = .ok (.putfield 29, 3) := by decide +kernel
theorem dX6_add_28 : decode cX6_add 28 = .ok (.aload_n 0, 1) := by decide +kernel
theorem dX6_add_29 : decode cX6_add 29 = .ok (.lload_n 1, 1) := by decide +kernel
theorem dX6_add_30 : decode cX6_add 30 = .ok (.invokevirtual 88, 3) := by decide +kernel
theorem dX6_add_33 : decode cX6_add 33 = .ok (.istore 4, 2) := by decide +kernel
theorem dX6_add_35 : decode cX6_add 35 = .ok (.aload_n 0, 1) := by decide +kernel
theorem dX6_add_36 : decode cX6_add 36 = .ok (.getfield 32, 3) := by decide +kernel
theorem dX6_add_39 : decode cX6_add 39 = .ok (.iload 4, 2) := by decide +kernel
theorem dX6_add_41 : decode cX6_add 41 = .ok (.iaload, 1) := by decide +kernel
theorem dX6_add_42 : decode cX6_add 42 = .ok (.ifCond .ne 54, 3) := by decide +kernel
theorem dX6_add_45 : decode cX6_add 45 = .ok (.aload_n 0, 1) := by decide +kernel
theorem dX6_add_46 : decode cX6_add 46 = .ok (.getfield 19, 3) := by decide +kernel
theorem dX6_add_49 : decode cX6_add 49 = .ok (.sipush 200, 3) := by decide +kernel
theorem dX6_add_52 : decode cX6_add 52 = .ok (.if_icmp .ge 44, 3) := by decide +kernel
theorem dX6_add_55 : decode cX6_add 55 = .ok (.aload_n 0, 1) := by decide +kernel
theorem dX6_add_56 : decode cX6_add 56 = .ok (.getfield 11, 3) := by decide +kernel
theorem dX6_add_59 : decode cX6_add 59 = .ok (.aload_n 0, 1) := by decide +kernel
theorem dX6_add_60 : decode cX6_add 60 = .ok (.getfield 19, 3) := by decide +kernel
theorem dX6_add_63 : decode cX6_add 63 = .ok (.lload_n 1, 1) := by decide +kernel
theorem dX6_add_64 : decode cX6_add 64 = .ok (.lastore, 1) := by decide +kernel
theorem dX6_add_65 : decode cX6_add 65 = .ok (.aload_n 0, 1) := by decide +kernel
theorem dX6_add_66 : decode cX6_add 66 = .ok (.getfield 15, 3) := by decide +kernel
theorem dX6_add_69 : decode cX6_add 69 = .ok (.aload_n 0, 1) := by decide +kernel
theorem dX6_add_70 : decode cX6_add 70 = .ok (.getfield 19, 3) := by decide +kernel
theorem dX6_add_73 : decode cX6_add 73 = .ok (.iload_n 3, 1) := by decide +kernel
theorem dX6_add_74 : decode cX6_add 74 = .ok (.iastore, 1) := by decide +kernel
theorem dX6_add_75 : decode cX6_add 75 = .ok (.aload_n 0, 1) := by decide +kernel
theorem dX6_add_76 : decode cX6_add 76 = .ok (.dup, 1) := by decide +kernel
theorem dX6_add_77 : decode cX6_add 77 = .ok (.getfield 19, 3) := by decide +kernel
theorem dX6_add_80 : decode cX6_add 80 = .ok (.iconst 1, 1) := by decide +kernel
theorem dX6_add_81 : decode cX6_add 81 = .ok (.iadd, 1) := by decide +kernel
theorem dX6_add_82 : decode cX6_add 82 = .ok (.putfield 19, 3) := by decide +kernel
theorem dX6_add_85 : decode cX6_add 85 = .ok (.aload_n 0, 1) := by decide +kernel
theorem dX6_add_86 : decode cX6_add 86 = .ok (.getfield 32, 3) := by decide +kernel
theorem dX6_add_89 : decode cX6_add 89 = .ok (.iload 4, 2) := by decide +kernel
theorem dX6_add_91 : decode cX6_add 91 = .ok (.aload_n 0, 1) := by decide +kernel
theorem dX6_add_92 : decode cX6_add 92 = .ok (.getfield 19, 3) := by decide +kernel
theorem dX6_add_95 : decode cX6_add 95 = .ok (.iastore, 1) := by decide +kernel
theorem dX6_add_96 : decode cX6_add 96 = .ok (.return_, 1) := by decide +kernel
abbrev rmX6_add : Room := { frames := 1, cells := 0, slots := 0, locals := 24 }
noncomputable def fJX6_add_m_28 (σ : St) (x0 : Nat) (x1 : Int64) (x3 : Int32)  : Option (St) :=
(isO σ x0 6).bind fun _ =>
(fX6_slotOf σ x0 x1).bind fun w30 =>
(gR σ x0 6 8).bind fun v36 =>
(aI σ v36 0 w30).bind fun v41 =>
if v41 = 0 then
((gI σ x0 6 4).bind fun v46 =>
if ((200 : Int32)) ≤ v46 then
(some σ)
else
((gR σ x0 6 2).bind fun v56 =>
(gI σ x0 6 4).bind fun v60 =>
(sL σ v56 v60 x1).bind fun σ64 =>
(gR σ64 x0 6 3).bind fun v66 =>
(gI σ64 x0 6 4).bind fun v70 =>
(sI σ64 v66 v70 x3).bind fun σ74 =>
(gI σ74 x0 6 4).bind fun v77 =>
(wrF σ74 x0 6 4 (.int (v77 + 1))).bind fun σ82 =>
(gR σ82 x0 6 8).bind fun v86 =>
(gI σ82 x0 6 4).bind fun v92 =>
(sI σ82 v86 w30 v92).bind fun σ95 =>
some σ95))
else
(some σ)
set_option maxHeartbeats 4000000 in
set_option maxRecDepth 100000 in
theorem jnX6_add_m_28 {X : xX} {σ : St} {x0 : Nat} {x1 : Int64} {x3 : Int32}   {c : St} (C : Ok X cX6_add 5 RX6 rmX6_add none) (hf : fJX6_add_m_28 σ x0 x1 x3  = some c) (hE : ∀ r, c = r → xE1 X none r) : V X (0, 0) σ 28 [(0, .ref (x0)), (1, .long (x1)), (3, .int (x3))] [] := by
  unfold fJX6_add_m_28 at hf
  refine x_aload_n C dX6_add_28 29 rfl 0 rfl rfl ?_
  refine x_lload_n C dX6_add_29 30 rfl 1 rfl rfl ?_
  obtain ⟨o30, ho30, hf⟩ := x_bind hf
  obtain ⟨w30, hw30, hf⟩ := x_bind hf
  refine x_callVi C dX6_add_30 33 rfl ho30 cl6.1 rfl (cX6_slotOfc hw30) kX6_slotOf kvX6_slotOf w1123 ⟨rfl, rfl⟩ ⟨Nat.le_of_ble_eq_true rfl, Nat.le_of_ble_eq_true rfl⟩ ⟨Nat.zero_le _, Nat.zero_le _⟩ rfl rfl (Nat.le_of_ble_eq_true rfl) ?_
  refine x_istore C dX6_add_33 35 rfl rfl [(4, .int (w30)), (0, .ref (x0)), (1, .long (x1)), (3, .int (x3))] rfl ?_
  refine x_aload_n C dX6_add_35 36 rfl 1 rfl rfl ?_
  obtain ⟨v36, hv36, hf⟩ := x_bind hf
  refine x_getR C dX6_add_36 39 rfl hv36 cl6 rfl w382 ?_
  refine x_iload C dX6_add_39 41 rfl 0 rfl ?_
  obtain ⟨v41, hv41, hf⟩ := x_bind hf
  refine x_iaload C dX6_add_41 42 rfl hv41 ?_
  refine x_if_ne C dX6_add_42 96 (by decide) 45 rfl (fun hc => ?_) (fun hc => ?_)
  · have hf := (if_neg hc).symm.trans hf
    exact x_vret C (hE _ (Option.some.inj hf).symm) dX6_add_96
  · have hf := (if_pos hc).symm.trans hf
    refine x_aload_n C dX6_add_45 46 rfl 1 rfl rfl ?_
    obtain ⟨v46, hv46, hf⟩ := x_bind hf
    refine x_getI C dX6_add_46 49 rfl hv46 cl6 rfl w374 ?_
    refine x_sipush C dX6_add_49 52 rfl 200 (by decide) ?_
    refine x_icmp_ge C dX6_add_52 96 (by decide) 55 rfl (fun hc => ?_) (fun hc => ?_)
    · have hf := (if_pos hc).symm.trans hf
      exact x_vret C (hE _ (Option.some.inj hf).symm) dX6_add_96
    · have hf := (if_neg hc).symm.trans hf
      refine x_aload_n C dX6_add_55 56 rfl 1 rfl rfl ?_
      obtain ⟨v56, hv56, hf⟩ := x_bind hf
      refine x_getR C dX6_add_56 59 rfl hv56 cl6 rfl w370 ?_
      refine x_aload_n C dX6_add_59 60 rfl 1 rfl rfl ?_
      obtain ⟨v60, hv60, hf⟩ := x_bind hf
      refine x_getI C dX6_add_60 63 rfl hv60 cl6 rfl w374 ?_
      refine x_lload_n C dX6_add_63 64 rfl 2 rfl rfl ?_
      obtain ⟨σ64, hσ64, hf⟩ := x_bind hf
      refine x_lastore C dX6_add_64 65 rfl hσ64 ?_
      refine x_aload_n C dX6_add_65 66 rfl 1 rfl rfl ?_
      obtain ⟨v66, hv66, hf⟩ := x_bind hf
      refine x_getR C dX6_add_66 69 rfl hv66 cl6 rfl w372 ?_
      refine x_aload_n C dX6_add_69 70 rfl 1 rfl rfl ?_
      obtain ⟨v70, hv70, hf⟩ := x_bind hf
      refine x_getI C dX6_add_70 73 rfl hv70 cl6 rfl w374 ?_
      refine x_iload_n C dX6_add_73 74 rfl 3 rfl rfl ?_
      obtain ⟨σ74, hσ74, hf⟩ := x_bind hf
      refine x_iastore C dX6_add_74 75 rfl hσ74 ?_
      refine x_aload_n C dX6_add_75 76 rfl 1 rfl rfl ?_
      refine x_dup C dX6_add_76 77 rfl rfl ?_
      obtain ⟨v77, hv77, hf⟩ := x_bind hf
      refine x_getI C dX6_add_77 80 rfl hv77 cl6 rfl w374 ?_
      refine x_iconst C dX6_add_80 81 rfl 1 (by decide) ?_
      refine x_iadd C dX6_add_81 82 rfl ?_
      obtain ⟨σ82, hσ82, hf⟩ := x_bind hf
      refine x_putX C dX6_add_82 85 rfl hσ82 cl6 rfl w374 rfl rfl rfl ?_
      refine x_aload_n C dX6_add_85 86 rfl 1 rfl rfl ?_
      obtain ⟨v86, hv86, hf⟩ := x_bind hf
      refine x_getR C dX6_add_86 89 rfl hv86 cl6 rfl w382 ?_
      refine x_iload C dX6_add_89 91 rfl 0 rfl ?_
      refine x_aload_n C dX6_add_91 92 rfl 1 rfl rfl ?_
      obtain ⟨v92, hv92, hf⟩ := x_bind hf
      refine x_getI C dX6_add_92 95 rfl hv92 cl6 rfl w374 ?_
      obtain ⟨σ95, hσ95, hf⟩ := x_bind hf
      refine x_iastore C dX6_add_95 96 rfl hσ95 ?_
      exact x_vret C (hE _ (Option.some.inj hf).symm) dX6_add_96
noncomputable def fX6_add (σ : St) (x0 : Nat) (x1 : Int64) (x3 : Int32) : Option (St) :=
if x3 ≤ 0 then
(fJX6_add_m_28 σ x0 x1 x3)
else
((gI σ x0 6 7).bind fun v5 =>
if v5 = (((-1) : Int32)) then
((gR σ x0 6 2).bind fun v14 =>
(aL σ v14 0).bind fun v18 =>
if (lg_cmp x1 v18) = 0 then
((wrF σ x0 6 7 (.int (x3))).bind fun σ25 =>
fJX6_add_m_28 σ25 x0 x1 x3)
else
(fJX6_add_m_28 σ x0 x1 x3))
else
(fJX6_add_m_28 σ x0 x1 x3))
set_option maxHeartbeats 4000000 in
set_option maxRecDepth 100000 in
theorem cX6_addc {l : Launch} {G : xG} {A : Nat → Prop} {σ : St} {x0 : Nat} {x1 : Int64} {x3 : Int32} {c : St} (hf : fX6_add σ x0 x1 x3 = some c) : Con l yX6_add (xws yX6_add cX6_add 5 none) rmX6_add [.ref (x0), .long (x1), .int (x3)] G A σ none c := by
  refine x_start rfl (Nat.le_of_ble_eq_true rfl) (fun X _ _ _ C hE0 => ?_)
  have hE : ∀ r, c = r → xE1 X none r := fun r e => e ▸ hE0
  show V X (0, 0) σ 0 [(0, .ref (x0)), (1, .long (x1)), (3, .int (x3))] []
  unfold fX6_add at hf
  refine x_iload_n C dX6_add_0 1 rfl 2 rfl rfl ?_
  refine x_if_le C dX6_add_1 28 (by decide) 4 rfl (fun hc => ?_) (fun hc => ?_)
  · have hf := (if_pos hc).symm.trans hf
    exact jnX6_add_m_28 C hf hE
  · have hf := (if_neg hc).symm.trans hf
    refine x_aload_n C dX6_add_4 5 rfl 0 rfl rfl ?_
    obtain ⟨v5, hv5, hf⟩ := x_bind hf
    refine x_getI C dX6_add_5 8 rfl hv5 cl6 rfl w380 ?_
    refine x_iconst C dX6_add_8 9 rfl (-1) (by decide) ?_
    refine x_icmp_ne C dX6_add_9 28 (by decide) 12 rfl (fun hc => ?_) (fun hc => ?_)
    · have hf := (if_neg hc).symm.trans hf
      exact jnX6_add_m_28 C hf hE
    · have hf := (if_pos hc).symm.trans hf
      refine x_lload_n C dX6_add_12 13 rfl 1 rfl rfl ?_
      refine x_aload_n C dX6_add_13 14 rfl 0 rfl rfl ?_
      obtain ⟨v14, hv14, hf⟩ := x_bind hf
      refine x_getR C dX6_add_14 17 rfl hv14 cl6 rfl w370 ?_
      refine x_iconst C dX6_add_17 18 rfl 0 (by decide) ?_
      obtain ⟨v18, hv18, hf⟩ := x_bind hf
      refine x_laload C dX6_add_18 19 rfl hv18 ?_
      refine x_lcmp C dX6_add_19 20 rfl ?_
      refine x_if_ne C dX6_add_20 28 (by decide) 23 rfl (fun hc => ?_) (fun hc => ?_)
      · have hf := (if_neg hc).symm.trans hf
        exact jnX6_add_m_28 C hf hE
      · have hf := (if_pos hc).symm.trans hf
        refine x_aload_n C dX6_add_23 24 rfl 0 rfl rfl ?_
        refine x_iload_n C dX6_add_24 25 rfl 2 rfl rfl ?_
        obtain ⟨σ25, hσ25, hf⟩ := x_bind hf
        refine x_putX C dX6_add_25 28 rfl hσ25 cl6 rfl w380 rfl rfl rfl ?_
        exact jnX6_add_m_28 C hf hE
theorem dX6_find_0 : decode cX6_find 0 = .ok (.aload_n 0, 1) := by decide +kernel
theorem dX6_find_1 : decode cX6_find 1 = .ok (.getfield 32, 3) := by decide +kernel
theorem dX6_find_4 : decode cX6_find 4 = .ok (.aload_n 0, 1) := by decide +kernel
theorem dX6_find_5 : decode cX6_find 5 = .ok (.lload_n 1, 1) := by decide +kernel
theorem dX6_find_6 : decode cX6_find 6 = .ok (.invokevirtual 88, 3) := by decide +kernel
theorem dX6_find_9 : decode cX6_find 9 = .ok (.iaload, 1) := by decide +kernel
theorem dX6_find_10 : decode cX6_find 10 = .ok (.iconst 1, 1) := by decide +kernel
theorem dX6_find_11 : decode cX6_find 11 = .ok (.isub, 1) := by decide +kernel
theorem dX6_find_12 : decode cX6_find 12 = .ok (.ireturn, 1) := by decide +kernel
abbrev rmX6_find : Room := { frames := 1, cells := 0, slots := 0, locals := 24 }
noncomputable def fX6_find (σ : St) (x0 : Nat) (x1 : Int64) : Option (Int32) :=
(gR σ x0 6 8).bind fun v1 =>
(isO σ x0 6).bind fun _ =>
(fX6_slotOf σ x0 x1).bind fun w6 =>
(aI σ v1 0 w6).bind fun v9 =>
some (v9 - 1)
set_option maxHeartbeats 4000000 in
set_option maxRecDepth 100000 in
theorem cX6_findc {l : Launch} {G : xG} {A : Nat → Prop} {σ : St} {x0 : Nat} {x1 : Int64} {c : Int32} (hf : fX6_find σ x0 x1 = some c) : Con l yX6_find (xws yX6_find cX6_find 3 (some .int)) rmX6_find [.ref (x0), .long (x1)] G A σ (some (.int c)) σ := by
  refine x_start rfl (Nat.le_of_ble_eq_true rfl) (fun X _ _ _ C hE0 => ?_)
  have hE : ∀ r, c = r → xE1 X (some (.int r)) σ := fun r e => e ▸ hE0
  show V X (0, 0) σ 0 [(0, .ref (x0)), (1, .long (x1))] []
  unfold fX6_find at hf
  refine x_aload_n C dX6_find_0 1 rfl 0 rfl rfl ?_
  obtain ⟨v1, hv1, hf⟩ := x_bind hf
  refine x_getR C dX6_find_1 4 rfl hv1 cl6 rfl w382 ?_
  refine x_aload_n C dX6_find_4 5 rfl 0 rfl rfl ?_
  refine x_lload_n C dX6_find_5 6 rfl 1 rfl rfl ?_
  obtain ⟨o6, ho6, hf⟩ := x_bind hf
  obtain ⟨w6, hw6, hf⟩ := x_bind hf
  refine x_callVi C dX6_find_6 9 rfl ho6 cl6.1 rfl (cX6_slotOfc hw6) kX6_slotOf kvX6_slotOf w1123 ⟨rfl, rfl⟩ ⟨Nat.le_of_ble_eq_true rfl, Nat.le_of_ble_eq_true rfl⟩ ⟨Nat.zero_le _, Nat.zero_le _⟩ rfl rfl (Nat.le_of_ble_eq_true rfl) ?_
  obtain ⟨v9, hv9, hf⟩ := x_bind hf
  refine x_iaload C dX6_find_9 10 rfl hv9 ?_
  refine x_iconst C dX6_find_10 11 rfl 1 (by decide) ?_
  refine x_isub C dX6_find_11 12 rfl ?_
  exact x_iret C (hE _ (Option.some.inj hf).symm) dX6_find_12
theorem dX6_follow_0 : decode cX6_follow 0 = .ok (.aload_n 0, 1) := by decide +kernel
theorem dX6_follow_1 : decode cX6_follow 1 = .ok (.getfield 11, 3) := by decide +kernel
theorem dX6_follow_4 : decode cX6_follow 4 = .ok (.iload_n 1, 1) := by decide +kernel
theorem dX6_follow_5 : decode cX6_follow 5 = .ok (.laload, 1) := by decide +kernel
theorem dX6_follow_6 : decode cX6_follow 6 = .ok (.lstore_n 2, 1) := by decide +kernel
theorem dX6_follow_7 : decode cX6_follow 7 = .ok (.iconst 0, 1) := by decide +kernel
theorem dX6_follow_8 : decode cX6_follow 8 = .ok (.istore 4, 2) := by decide +kernel
theorem dX6_follow_10 : decode cX6_follow 10 = .ok (.iconst 0, 1) := by decide +kernel
theorem dX6_follow_11 : decode cX6_follow 11 = .ok (.istore 5, 2) := by decide +kernel
theorem dX6_follow_13 : decode cX6_follow 13 = .ok (.iload 5, 2) := by decide +kernel
theorem dX6_follow_15 : decode cX6_follow 15 = .ok (.lload_n 2, 1) := by decide +kernel
theorem dX6_follow_16 : decode cX6_follow 16 = .ok (.invokestatic 67, 3) := by decide +kernel
theorem dX6_follow_19 : decode cX6_follow 19 = .ok (.if_icmp .ge 100, 3) := by decide +kernel
theorem dX6_follow_22 : decode cX6_follow 22 = .ok (.iconst 0, 1) := by decide +kernel
theorem dX6_follow_23 : decode cX6_follow 23 = .ok (.istore 6, 2) := by decide +kernel
theorem dX6_follow_25 : decode cX6_follow 25 = .ok (.iload 6, 2) := by decide +kernel
theorem dX6_follow_27 : decode cX6_follow 27 = .ok (.aload_n 0, 1) := by decide +kernel
theorem dX6_follow_28 : decode cX6_follow 28 = .ok (.getfield 38, 3) := by decide +kernel
theorem dX6_follow_31 : decode cX6_follow 31 = .ok (.getfield 73, 3) := by decide +kernel
theorem dX6_follow_34 : decode cX6_follow 34 = .ok (.if_icmp .ge 79, 3) := by decide +kernel
theorem dX6_follow_37 : decode cX6_follow 37 = .ok (.lload_n 2, 1) := by decide +kernel
theorem dX6_follow_38 : decode cX6_follow 38 = .ok (.iload 5, 2) := by decide +kernel
theorem dX6_follow_40 : decode cX6_follow 40 = .ok (.aload_n 0, 1) := by decide +kernel
theorem dX6_follow_41 : decode cX6_follow 41 = .ok (.getfield 38, 3) := by decide +kernel
theorem dX6_follow_44 : decode cX6_follow 44 = .ok (.getfield 74, 3) := by decide +kernel
theorem dX6_follow_47 : decode cX6_follow 47 = .ok (.iload 6, 2) := by decide +kernel
theorem dX6_follow_49 : decode cX6_follow 49 = .ok (.laload, 1) := by decide +kernel
theorem dX6_follow_50 : decode cX6_follow 50 = .ok (.aload_n 0, 1) := by decide +kernel
theorem dX6_follow_51 : decode cX6_follow 51 = .ok (.getfield 38, 3) := by decide +kernel
theorem dX6_follow_54 : decode cX6_follow 54 = .ok (.getfield 77, 3) := by decide +kernel
theorem dX6_follow_57 : decode cX6_follow 57 = .ok (.iload 6, 2) := by decide +kernel
theorem dX6_follow_59 : decode cX6_follow 59 = .ok (.laload, 1) := by decide +kernel
theorem dX6_follow_60 : decode cX6_follow 60 = .ok (.invokestatic 80, 3) := by decide +kernel
theorem dX6_follow_63 : decode cX6_follow 63 = .ok (.ifCond .eq 44, 3) := by decide +kernel
theorem dX6_follow_66 : decode cX6_follow 66 = .ok (.aload_n 0, 1) := by decide +kernel
theorem dX6_follow_67 : decode cX6_follow 67 = .ok (.lload_n 2, 1) := by decide +kernel
theorem dX6_follow_68 : decode cX6_follow 68 = .ok (.iload 5, 2) := by decide +kernel
theorem dX6_follow_70 : decode cX6_follow 70 = .ok (.aload_n 0, 1) := by decide +kernel
theorem dX6_follow_71 : decode cX6_follow 71 = .ok (.getfield 38, 3) := by decide +kernel
theorem dX6_follow_74 : decode cX6_follow 74 = .ok (.getfield 74, 3) := by decide +kernel
theorem dX6_follow_77 : decode cX6_follow 77 = .ok (.iload 6, 2) := by decide +kernel
theorem dX6_follow_79 : decode cX6_follow 79 = .ok (.laload, 1) := by decide +kernel
theorem dX6_follow_80 : decode cX6_follow 80 = .ok (.aload_n 0, 1) := by decide +kernel
theorem dX6_follow_81 : decode cX6_follow 81 = .ok (.getfield 38, 3) := by decide +kernel
theorem dX6_follow_84 : decode cX6_follow 84 = .ok (.getfield 77, 3) := by decide +kernel
theorem dX6_follow_87 : decode cX6_follow 87 = .ok (.iload 6, 2) := by decide +kernel
theorem dX6_follow_89 : decode cX6_follow 89 = .ok (.laload, 1) := by decide +kernel
theorem dX6_follow_90 : decode cX6_follow 90 = .ok (.invokestatic 84, 3) := by decide +kernel
theorem dX6_follow_93 : decode cX6_follow 93 = .ok (.aload_n 0, 1) := by decide +kernel
theorem dX6_follow_94 : decode cX6_follow 94 = .ok (.getfield 15, 3) := by decide +kernel
theorem dX6_follow_97 : decode cX6_follow 97 = .ok (.iload_n 1, 1) := by decide +kernel
theorem dX6_follow_98 : decode cX6_follow 98 = .ok (.iaload, 1) := by decide +kernel
theorem dX6_follow_99 : decode cX6_follow 99 = .ok (.iconst 1, 1) := by decide +kernel
theorem dX6_follow_100 : decode cX6_follow 100 = .ok (.iadd, 1) := by decide +kernel
theorem dX6_follow_101 : decode cX6_follow 101 = .ok (.invokevirtual 55, 3) := by decide +kernel
theorem dX6_follow_104 : decode cX6_follow 104 = .ok (.iinc 4 1, 3) := by decide +kernel
theorem dX6_follow_107 : decode cX6_follow 107 = .ok (.iinc 6 1, 3) := by decide +kernel
theorem dX6_follow_110 : decode cX6_follow 110 = .ok (.goto (-85), 3) := by decide +kernel
theorem dX6_follow_113 : decode cX6_follow 113 = .ok (.iinc 5 1, 3) := by decide +kernel
theorem dX6_follow_116 : decode cX6_follow 116 = .ok (.goto (-103), 3) := by decide +kernel
theorem dX6_follow_119 : decode cX6_follow 119 = .ok (.iload 4, 2) := by decide +kernel
theorem dX6_follow_121 : decode cX6_follow 121 = .ok (.ireturn, 1) := by decide +kernel
abbrev rmX6_follow : Room := { frames := 2, cells := 0, slots := 0, locals := 48 }
noncomputable def fLX6_follow_25 (x0 : Nat) (x1 : Int32) (x2 : Int64) (x5 : Int32) (a : Int32 × Int32 × St) : Option ((Int32 × Int32 × St) ⊕ (Int32 × St)) :=
(gR a.2.2 x0 6 0).bind fun v28 =>
(gI a.2.2 v28 8 1).bind fun v31 =>
if v31 ≤ a.2.1 then
(some (Sum.inr (a.1, a.2.2)))
else
((gR a.2.2 x0 6 0).bind fun v41 =>
(gR a.2.2 v41 8 2).bind fun v44 =>
(aL a.2.2 v44 a.2.1).bind fun v49 =>
(gR a.2.2 x0 6 0).bind fun v51 =>
(gR a.2.2 v51 8 3).bind fun v54 =>
(aL a.2.2 v54 a.2.1).bind fun v59 =>
(fX10_fits x2 x5 v49 v59).bind fun w60 =>
if w60 = 0 then
(xlet (a.2.1 + 1) fun v107 =>
some (Sum.inl (a.1, v107, a.2.2)))
else
((gR a.2.2 x0 6 0).bind fun v71 =>
(gR a.2.2 v71 8 2).bind fun v74 =>
(aL a.2.2 v74 a.2.1).bind fun v79 =>
(gR a.2.2 x0 6 0).bind fun v81 =>
(gR a.2.2 v81 8 3).bind fun v84 =>
(aL a.2.2 v84 a.2.1).bind fun v89 =>
(fX10_replaced x2 x5 v79 v89).bind fun w90 =>
(gR a.2.2 x0 6 3).bind fun v94 =>
(aI a.2.2 v94 0 x1).bind fun v98 =>
(isO a.2.2 x0 6).bind fun _ =>
(fX6_add a.2.2 x0 w90 (v98 + 1)).bind fun w101 =>
xlet (a.1 + 1) fun v104 =>
xlet (a.2.1 + 1) fun v107 =>
some (Sum.inl (v104, v107, w101))))
set_option maxHeartbeats 4000000 in
set_option maxRecDepth 100000 in
theorem lpX6_follow_25 {X : xX} {x0 : Nat} {x1 : Int32} {x2 : Int64} {x5 : Int32}  {a0 : Int32 × Int32 × St} {b : Int32 × St} (C : Ok X cX6_follow 7 RX6 rmX6_follow (some .int)) (hb : iterP (fLX6_follow_25 x0 x1 x2 x5) a0 = some b) (hy0 : ∀ s, b = s → V X (0, 0) s.2 113 [(0, .ref (x0)), (1, .int (x1)), (2, .long (x2)), (4, .int (s.1)), (5, .int (x5))] []) : V X (0, 0) a0.2.2 25 [(0, .ref (x0)), (1, .int (x1)), (2, .long (x2)), (4, .int (a0.1)), (5, .int (x5)), (6, .int (a0.2.1))] [] := by
  obtain ⟨n, hn⟩ := iterP_some hb
  refine x_loop (P := fun a => V X (0, 0) a.2.2 25 [(0, .ref (x0)), (1, .int (x1)), (2, .long (x2)), (4, .int (a.1)), (5, .int (x5)), (6, .int (a.2.1))] []) ?_ n a0 hn
  intro a c hf hK hxx
  have hx0 : ∀ s, c = Sum.inr s → V X (0, 0) s.2 113 [(0, .ref (x0)), (1, .int (x1)), (2, .long (x2)), (4, .int (s.1)), (5, .int (x5))] [] := fun s e => hy0 s (hxx _ e).symm
  unfold fLX6_follow_25 at hf
  refine x_iload C dX6_follow_25 27 rfl 5 rfl ?_
  refine x_aload_n C dX6_follow_27 28 rfl 0 rfl rfl ?_
  obtain ⟨v28, hv28, hf⟩ := x_bind hf
  refine x_getR C dX6_follow_28 31 rfl hv28 cl6 rfl w368 ?_
  obtain ⟨v31, hv31, hf⟩ := x_bind hf
  refine x_getI C dX6_follow_31 34 rfl hv31 cl8 rfl w185 ?_
  refine x_icmp_ge C dX6_follow_34 113 (by decide) 37 rfl (fun hc => ?_) (fun hc => ?_)
  · have hf := (if_pos hc).symm.trans hf
    refine x_lv [0, 1, 2, 3, 4] (lv' := [(0, .ref (x0)), (1, .int (x1)), (2, .long (x2)), (4, .int (a.1)), (5, .int (x5))]) rfl ?_
    exact hx0 _ (Option.some.inj hf).symm
  · have hf := (if_neg hc).symm.trans hf
    refine x_lload_n C dX6_follow_37 38 rfl 2 rfl rfl ?_
    refine x_iload C dX6_follow_38 40 rfl 4 rfl ?_
    refine x_aload_n C dX6_follow_40 41 rfl 0 rfl rfl ?_
    obtain ⟨v41, hv41, hf⟩ := x_bind hf
    refine x_getR C dX6_follow_41 44 rfl hv41 cl6 rfl w368 ?_
    obtain ⟨v44, hv44, hf⟩ := x_bind hf
    refine x_getR C dX6_follow_44 47 rfl hv44 cl8 rfl w192 ?_
    refine x_iload C dX6_follow_47 49 rfl 5 rfl ?_
    obtain ⟨v49, hv49, hf⟩ := x_bind hf
    refine x_laload C dX6_follow_49 50 rfl hv49 ?_
    refine x_aload_n C dX6_follow_50 51 rfl 0 rfl rfl ?_
    obtain ⟨v51, hv51, hf⟩ := x_bind hf
    refine x_getR C dX6_follow_51 54 rfl hv51 cl6 rfl w368 ?_
    obtain ⟨v54, hv54, hf⟩ := x_bind hf
    refine x_getR C dX6_follow_54 57 rfl hv54 cl8 rfl w197 ?_
    refine x_iload C dX6_follow_57 59 rfl 5 rfl ?_
    obtain ⟨v59, hv59, hf⟩ := x_bind hf
    refine x_laload C dX6_follow_59 60 rfl hv59 ?_
    obtain ⟨w60, hw60, hf⟩ := x_bind hf
    refine x_callSi C dX6_follow_60 63 rfl (cX10_fitsc hw60) kX10_fits ksX10_fits w1132 ⟨rfl, rfl⟩ ⟨Nat.le_of_ble_eq_true rfl, Nat.le_of_ble_eq_true rfl⟩ ⟨Nat.zero_le _, Nat.zero_le _⟩ rfl rfl (Nat.le_of_ble_eq_true rfl) ?_
    refine x_if_eq C dX6_follow_63 107 (by decide) 66 rfl (fun hc => ?_) (fun hc => ?_)
    · have hf := (if_pos hc).symm.trans hf
      obtain ⟨v107, ev107, hf⟩ := xlet_some hf
      refine x_iinc C dX6_follow_107 110 rfl 5 rfl v107 ev107 rfl [(6, .int (v107)), (0, .ref (x0)), (1, .int (x1)), (2, .long (x2)), (4, .int (a.1)), (5, .int (x5))] rfl ?_
      refine x_goto C dX6_follow_110 25 (by decide) ?_
      refine x_lv [1, 2, 3, 4, 5, 0] (lv' := [(0, .ref (x0)), (1, .int (x1)), (2, .long (x2)), (4, .int (a.1)), (5, .int (x5)), (6, .int (v107))]) rfl ?_
      exact hK _ (Option.some.inj hf).symm
    · have hf := (if_neg hc).symm.trans hf
      refine x_aload_n C dX6_follow_66 67 rfl 0 rfl rfl ?_
      refine x_lload_n C dX6_follow_67 68 rfl 2 rfl rfl ?_
      refine x_iload C dX6_follow_68 70 rfl 4 rfl ?_
      refine x_aload_n C dX6_follow_70 71 rfl 0 rfl rfl ?_
      obtain ⟨v71, hv71, hf⟩ := x_bind hf
      refine x_getR C dX6_follow_71 74 rfl hv71 cl6 rfl w368 ?_
      obtain ⟨v74, hv74, hf⟩ := x_bind hf
      refine x_getR C dX6_follow_74 77 rfl hv74 cl8 rfl w192 ?_
      refine x_iload C dX6_follow_77 79 rfl 5 rfl ?_
      obtain ⟨v79, hv79, hf⟩ := x_bind hf
      refine x_laload C dX6_follow_79 80 rfl hv79 ?_
      refine x_aload_n C dX6_follow_80 81 rfl 0 rfl rfl ?_
      obtain ⟨v81, hv81, hf⟩ := x_bind hf
      refine x_getR C dX6_follow_81 84 rfl hv81 cl6 rfl w368 ?_
      obtain ⟨v84, hv84, hf⟩ := x_bind hf
      refine x_getR C dX6_follow_84 87 rfl hv84 cl8 rfl w197 ?_
      refine x_iload C dX6_follow_87 89 rfl 5 rfl ?_
      obtain ⟨v89, hv89, hf⟩ := x_bind hf
      refine x_laload C dX6_follow_89 90 rfl hv89 ?_
      obtain ⟨w90, hw90, hf⟩ := x_bind hf
      refine x_callSl C dX6_follow_90 93 rfl (cX10_replacedc hw90) kX10_replaced ksX10_replaced w1133 ⟨rfl, rfl⟩ ⟨Nat.le_of_ble_eq_true rfl, Nat.le_of_ble_eq_true rfl⟩ ⟨Nat.zero_le _, Nat.zero_le _⟩ rfl rfl (Nat.le_of_ble_eq_true rfl) ?_
      refine x_aload_n C dX6_follow_93 94 rfl 0 rfl rfl ?_
      obtain ⟨v94, hv94, hf⟩ := x_bind hf
      refine x_getR C dX6_follow_94 97 rfl hv94 cl6 rfl w372 ?_
      refine x_iload_n C dX6_follow_97 98 rfl 1 rfl rfl ?_
      obtain ⟨v98, hv98, hf⟩ := x_bind hf
      refine x_iaload C dX6_follow_98 99 rfl hv98 ?_
      refine x_iconst C dX6_follow_99 100 rfl 1 (by decide) ?_
      refine x_iadd C dX6_follow_100 101 rfl ?_
      obtain ⟨o101, ho101, hf⟩ := x_bind hf
      obtain ⟨w101, hw101, hf⟩ := x_bind hf
      refine x_callVv C dX6_follow_101 104 rfl ho101 cl6.1 rfl (cX6_addc hw101) kX6_add kvX6_add w1119 ⟨rfl, rfl⟩ ⟨Nat.le_of_ble_eq_true rfl, Nat.le_of_ble_eq_true rfl⟩ ⟨Nat.zero_le _, Nat.zero_le _⟩ rfl rfl (Nat.le_of_ble_eq_true rfl) ?_
      obtain ⟨v104, ev104, hf⟩ := xlet_some hf
      refine x_iinc C dX6_follow_104 107 rfl 3 rfl v104 ev104 rfl [(4, .int (v104)), (0, .ref (x0)), (1, .int (x1)), (2, .long (x2)), (5, .int (x5)), (6, .int (a.2.1))] rfl ?_
      obtain ⟨v107, ev107, hf⟩ := xlet_some hf
      refine x_iinc C dX6_follow_107 110 rfl 5 rfl v107 ev107 rfl [(6, .int (v107)), (4, .int (v104)), (0, .ref (x0)), (1, .int (x1)), (2, .long (x2)), (5, .int (x5))] rfl ?_
      refine x_goto C dX6_follow_110 25 (by decide) ?_
      refine x_lv [2, 3, 4, 1, 5, 0] (lv' := [(0, .ref (x0)), (1, .int (x1)), (2, .long (x2)), (4, .int (v104)), (5, .int (x5)), (6, .int (v107))]) rfl ?_
      exact hK _ (Option.some.inj hf).symm
noncomputable def fLX6_follow_13 (x0 : Nat) (x1 : Int32) (x2 : Int64) (a : Int32 × Int32 × St) : Option ((Int32 × Int32 × St) ⊕ (Int32 × St)) :=
(fX10_length x2).bind fun w16 =>
if w16 ≤ a.2.1 then
(some (Sum.inr (a.1, a.2.2)))
else
((iterP (fLX6_follow_25 x0 x1 x2 a.2.1) (a.1, 0, a.2.2)).bind fun b25 =>
xlet (a.2.1 + 1) fun v113 =>
some (Sum.inl (b25.1, v113, b25.2)))
set_option maxHeartbeats 4000000 in
set_option maxRecDepth 100000 in
theorem lpX6_follow_13 {X : xX} {x0 : Nat} {x1 : Int32} {x2 : Int64}  {a0 : Int32 × Int32 × St} {b : Int32 × St} (C : Ok X cX6_follow 7 RX6 rmX6_follow (some .int)) (hb : iterP (fLX6_follow_13 x0 x1 x2) a0 = some b) (hy0 : ∀ s, b = s → V X (0, 0) s.2 119 [(4, .int (s.1))] []) : V X (0, 0) a0.2.2 13 [(0, .ref (x0)), (1, .int (x1)), (2, .long (x2)), (4, .int (a0.1)), (5, .int (a0.2.1))] [] := by
  obtain ⟨n, hn⟩ := iterP_some hb
  refine x_loop (P := fun a => V X (0, 0) a.2.2 13 [(0, .ref (x0)), (1, .int (x1)), (2, .long (x2)), (4, .int (a.1)), (5, .int (a.2.1))] []) ?_ n a0 hn
  intro a c hf hK hxx
  have hx0 : ∀ s, c = Sum.inr s → V X (0, 0) s.2 119 [(4, .int (s.1))] [] := fun s e => hy0 s (hxx _ e).symm
  unfold fLX6_follow_13 at hf
  refine x_iload C dX6_follow_13 15 rfl 4 rfl ?_
  refine x_lload_n C dX6_follow_15 16 rfl 2 rfl rfl ?_
  obtain ⟨w16, hw16, hf⟩ := x_bind hf
  refine x_callSi C dX6_follow_16 19 rfl (cX10_lengthc hw16) kX10_length ksX10_length w1131 ⟨rfl, rfl⟩ ⟨Nat.le_of_ble_eq_true rfl, Nat.le_of_ble_eq_true rfl⟩ ⟨Nat.zero_le _, Nat.zero_le _⟩ rfl rfl (Nat.le_of_ble_eq_true rfl) ?_
  refine x_icmp_ge C dX6_follow_19 119 (by decide) 22 rfl (fun hc => ?_) (fun hc => ?_)
  · have hf := (if_pos hc).symm.trans hf
    refine x_lv [3] (lv' := [(4, .int (a.1))]) rfl ?_
    exact hx0 _ (Option.some.inj hf).symm
  · have hf := (if_neg hc).symm.trans hf
    refine x_iconst C dX6_follow_22 23 rfl 0 (by decide) ?_
    refine x_istore C dX6_follow_23 25 rfl rfl [(6, .int (0)), (0, .ref (x0)), (1, .int (x1)), (2, .long (x2)), (4, .int (a.1)), (5, .int (a.2.1))] rfl ?_
    obtain ⟨b25, hb25, hf⟩ := x_bind hf
    refine x_lv [1, 2, 3, 4, 5, 0] (lv' := [(0, .ref (x0)), (1, .int (x1)), (2, .long (x2)), (4, .int (a.1)), (5, .int (a.2.1)), (6, .int (0))]) rfl ?_
    refine lpX6_follow_25 C hb25 (fun s25 e25 => ?_)
    subst e25
    obtain ⟨v113, ev113, hf⟩ := xlet_some hf
    refine x_iinc C dX6_follow_113 116 rfl 4 rfl v113 ev113 rfl [(5, .int (v113)), (0, .ref (x0)), (1, .int (x1)), (2, .long (x2)), (4, .int (b25.1))] rfl ?_
    refine x_goto C dX6_follow_116 13 (by decide) ?_
    refine x_lv [1, 2, 3, 4, 0] (lv' := [(0, .ref (x0)), (1, .int (x1)), (2, .long (x2)), (4, .int (b25.1)), (5, .int (v113))]) rfl ?_
    exact hK _ (Option.some.inj hf).symm
noncomputable def fX6_follow (σ : St) (x0 : Nat) (x1 : Int32) : Option ((Int32 × St)) :=
(gR σ x0 6 2).bind fun v1 =>
(aL σ v1 x1).bind fun v5 =>
(iterP (fLX6_follow_13 x0 x1 v5) (0, 0, σ)).bind fun b13 =>
some (b13.1, b13.2)
set_option maxHeartbeats 4000000 in
set_option maxRecDepth 100000 in
theorem cX6_followc {l : Launch} {G : xG} {A : Nat → Prop} {σ : St} {x0 : Nat} {x1 : Int32} {c : (Int32 × St)} (hf : fX6_follow σ x0 x1 = some c) : Con l yX6_follow (xws yX6_follow cX6_follow 7 (some .int)) rmX6_follow [.ref (x0), .int (x1)] G A σ (some (.int c.1)) c.2 := by
  refine x_start rfl (Nat.le_of_ble_eq_true rfl) (fun X _ _ _ C hE0 => ?_)
  have hE : ∀ r, c = r → xE1 X (some (.int r.1)) r.2 := fun r e => e ▸ hE0
  show V X (0, 0) σ 0 [(0, .ref (x0)), (1, .int (x1))] []
  unfold fX6_follow at hf
  refine x_aload_n C dX6_follow_0 1 rfl 0 rfl rfl ?_
  obtain ⟨v1, hv1, hf⟩ := x_bind hf
  refine x_getR C dX6_follow_1 4 rfl hv1 cl6 rfl w370 ?_
  refine x_iload_n C dX6_follow_4 5 rfl 1 rfl rfl ?_
  obtain ⟨v5, hv5, hf⟩ := x_bind hf
  refine x_laload C dX6_follow_5 6 rfl hv5 ?_
  refine x_lstore_n C dX6_follow_6 7 rfl rfl rfl [(2, .long (v5)), (0, .ref (x0)), (1, .int (x1))] rfl ?_
  refine x_iconst C dX6_follow_7 8 rfl 0 (by decide) ?_
  refine x_istore C dX6_follow_8 10 rfl rfl [(4, .int (0)), (2, .long (v5)), (0, .ref (x0)), (1, .int (x1))] rfl ?_
  refine x_iconst C dX6_follow_10 11 rfl 0 (by decide) ?_
  refine x_istore C dX6_follow_11 13 rfl rfl [(5, .int (0)), (4, .int (0)), (2, .long (v5)), (0, .ref (x0)), (1, .int (x1))] rfl ?_
  obtain ⟨b13, hb13, hf⟩ := x_bind hf
  refine x_lv [3, 4, 2, 1, 0] (lv' := [(0, .ref (x0)), (1, .int (x1)), (2, .long (v5)), (4, .int (0)), (5, .int (0))]) rfl ?_
  refine lpX6_follow_13 C hb13 (fun s13 e13 => ?_)
  subst e13
  refine x_iload C dX6_follow_119 121 rfl 0 rfl ?_
  exact x_iret C (hE _ (Option.some.inj hf).symm) dX6_follow_121
