/-! methods: X12_keeps X12_close X12_comes X12_comesTo X12_compare X12_letters X12_often X12_constant X12_falling X12_overlapMany X12_unclosed X12_count -/
theorem dX12_keeps_0 : decode cX12_keeps 0 = .ok (.aload_n 0, 1) := by decide +kernel
theorem dX12_keeps_1 : decode cX12_keeps 1 = .ok (.getfield 113, 3) := by decide +kernel
theorem dX12_keeps_4 : decode cX12_keeps 4 = .ok (.bipush 20, 2) := by decide +kernel
theorem dX12_keeps_6 : decode cX12_keeps 6 = .ok (.if_icmp .ne 46, 3) := by decide +kernel
theorem dX12_keeps_9 : decode cX12_keeps 9 = .ok (.sipush 294, 3) := by decide +kernel
theorem dX12_keeps_12 : decode cX12_keeps 12 = .ok (.istore_n 1, 1) := by decide +kernel
theorem dX12_keeps_13 : decode cX12_keeps 13 = .ok (.iload_n 1, 1) := by decide +kernel
theorem dX12_keeps_14 : decode cX12_keeps 14 = .ok (.sipush 5880, 3) := by decide +kernel
theorem dX12_keeps_17 : decode cX12_keeps 17 = .ok (.if_icmp .ge 25, 3) := by decide +kernel
theorem dX12_keeps_20 : decode cX12_keeps 20 = .ok (.aload_n 0, 1) := by decide +kernel
theorem dX12_keeps_21 : decode cX12_keeps 21 = .ok (.getfield 17, 3) := by decide +kernel
theorem dX12_keeps_24 : decode cX12_keeps 24 = .ok (.iload_n 1, 1) := by decide +kernel
theorem dX12_keeps_25 : decode cX12_keeps 25 = .ok (.sipush 294, 3) := by decide +kernel
theorem dX12_keeps_28 : decode cX12_keeps 28 = .ok (.isub, 1) := by decide +kernel
theorem dX12_keeps_29 : decode cX12_keeps 29 = .ok (.aload_n 0, 1) := by decide +kernel
theorem dX12_keeps_30 : decode cX12_keeps 30 = .ok (.getfield 17, 3) := by decide +kernel
theorem dX12_keeps_33 : decode cX12_keeps 33 = .ok (.iload_n 1, 1) := by decide +kernel
theorem dX12_keeps_34 : decode cX12_keeps 34 = .ok (.laload, 1) := by decide +kernel
theorem dX12_keeps_35 : decode cX12_keeps 35 = .ok (.lastore, 1) := by decide +kernel
theorem dX12_keeps_36 : decode cX12_keeps 36 = .ok (.iinc 1 1, 3) := by decide +kernel
theorem dX12_keeps_39 : decode cX12_keeps 39 = .ok (.goto (-26), 3) := by decide +kernel
theorem dX12_keeps_42 : decode cX12_keeps 42 = .ok (.aload_n 0, 1) := by decide +kernel
theorem dX12_keeps_43 : decode cX12_keeps 43 = .ok (.dup, 1) := by decide +kernel
theorem dX12_keeps_44 : decode cX12_keeps 44 = .ok (.getfield 113, 3) := by decide +kernel
theorem dX12_keeps_47 : decode cX12_keeps 47 = .ok (.iconst 1, 1) := by decide +kernel
theorem dX12_keeps_48 : decode cX12_keeps 48 = .ok (.isub, 1) := by decide +kernel
theorem dX12_keeps_49 : decode cX12_keeps 49 = .ok (.putfield 113, 3) := by decide +kernel
theorem dX12_keeps_52 : decode cX12_keeps 52 = .ok (.aload_n 0, 1) := by decide +kernel
theorem dX12_keeps_53 : decode cX12_keeps 53 = .ok (.getfield 13, 3) := by decide +kernel
theorem dX12_keeps_56 : decode cX12_keeps 56 = .ok (.iconst 0, 1) := by decide +kernel
theorem dX12_keeps_57 : decode cX12_keeps 57 = .ok (.aload_n 0, 1) := by decide +kernel
theorem dX12_keeps_58 : decode cX12_keeps 58 = .ok (.getfield 17, 3) := by decide +kernel
theorem dX12_keeps_61 : decode cX12_keeps 61 = .ok (.sipush 294, 3) := by decide +kernel
theorem dX12_keeps_64 : decode cX12_keeps 64 = .ok (.aload_n 0, 1) := by decide +kernel
theorem dX12_keeps_65 : decode cX12_keeps 65 = .ok (.getfield 113, 3) := by decide +kernel
theorem dX12_keeps_68 : decode cX12_keeps 68 = .ok (.imul, 1) := by decide +kernel
theorem dX12_keeps_69 : decode cX12_keeps 69 = .ok (.invokestatic 116, 3) := by decide +kernel
theorem dX12_keeps_72 : decode cX12_keeps 72 = .ok (.aload_n 0, 1) := by decide +kernel
theorem dX12_keeps_73 : decode cX12_keeps 73 = .ok (.dup, 1) := by decide +kernel
theorem dX12_keeps_74 : decode cX12_keeps 74 = .ok (.getfield 113, 3) := by decide +kernel
theorem dX12_keeps_77 : decode cX12_keeps 77 = .ok (.iconst 1, 1) := by decide +kernel
theorem dX12_keeps_78 : decode cX12_keeps 78 = .ok (.iadd, 1) := by decide +kernel
theorem dX12_keeps_79 : decode cX12_keeps 79 = .ok (.putfield 113, 3) := by decide +kernel
theorem dX12_keeps_82 : decode cX12_keeps 82 = .ok (.return_, 1) := by decide +kernel
abbrev rmX12_keeps : Room := { frames := 1, cells := 0, slots := 0, locals := 24 }
noncomputable def fJX12_keeps_m_52 (σ : St) (x0 : Nat)  : Option (St) :=
(gR σ x0 11 1).bind fun v53 =>
(gR σ x0 11 2).bind fun v58 =>
(gI σ x0 11 5).bind fun v65 =>
(fX12_copies σ v53 0 v58 (294 * v65)).bind fun w69 =>
(gI w69 x0 11 5).bind fun v74 =>
(wrF w69 x0 11 5 (.int (v74 + 1))).bind fun σ79 =>
some σ79
set_option maxHeartbeats 4000000 in
set_option maxRecDepth 100000 in
theorem jnX12_keeps_m_52 {X : xX} {σ : St} {x0 : Nat}   {c : St} (C : Ok X cX12_keeps 2 RX12 rmX12_keeps none) (hf : fJX12_keeps_m_52 σ x0  = some c) (hE : ∀ r, c = r → xE1 X none r) : V X (0, 0) σ 52 [(0, .ref (x0))] [] := by
  unfold fJX12_keeps_m_52 at hf
  refine x_aload_n C dX12_keeps_52 53 rfl 0 rfl rfl ?_
  obtain ⟨v53, hv53, hf⟩ := x_bind hf
  refine x_getR C dX12_keeps_53 56 rfl hv53 cl11 rfl w1444 ?_
  refine x_iconst C dX12_keeps_56 57 rfl 0 (by decide) ?_
  refine x_aload_n C dX12_keeps_57 58 rfl 0 rfl rfl ?_
  obtain ⟨v58, hv58, hf⟩ := x_bind hf
  refine x_getR C dX12_keeps_58 61 rfl hv58 cl11 rfl w1445 ?_
  refine x_sipush C dX12_keeps_61 64 rfl 294 (by decide) ?_
  refine x_aload_n C dX12_keeps_64 65 rfl 0 rfl rfl ?_
  obtain ⟨v65, hv65, hf⟩ := x_bind hf
  refine x_getI C dX12_keeps_65 68 rfl hv65 cl11 rfl w1448 ?_
  refine x_imul C dX12_keeps_68 69 rfl ?_
  obtain ⟨w69, hw69, hf⟩ := x_bind hf
  refine x_callSv C dX12_keeps_69 72 rfl (cX12_copiesc hw69) kX12_copies ksX12_copies w1622 ⟨rfl, rfl⟩ ⟨Nat.le_of_ble_eq_true rfl, Nat.le_of_ble_eq_true rfl⟩ ⟨Nat.zero_le _, Nat.zero_le _⟩ rfl rfl (Nat.le_of_ble_eq_true rfl) ?_
  refine x_aload_n C dX12_keeps_72 73 rfl 0 rfl rfl ?_
  refine x_dup C dX12_keeps_73 74 rfl rfl ?_
  obtain ⟨v74, hv74, hf⟩ := x_bind hf
  refine x_getI C dX12_keeps_74 77 rfl hv74 cl11 rfl w1448 ?_
  refine x_iconst C dX12_keeps_77 78 rfl 1 (by decide) ?_
  refine x_iadd C dX12_keeps_78 79 rfl ?_
  obtain ⟨σ79, hσ79, hf⟩ := x_bind hf
  refine x_putX C dX12_keeps_79 82 rfl hσ79 cl11 rfl w1448 rfl rfl rfl ?_
  exact x_vret C (hE _ (Option.some.inj hf).symm) dX12_keeps_82
noncomputable def fLX12_keeps_13 (x0 : Nat) (a : Int32 × St) : Option ((Int32 × St) ⊕ (St)) :=
if ((5880 : Int32)) ≤ a.1 then
(some (Sum.inr a.2))
else
((gR a.2 x0 11 2).bind fun v21 =>
(gR a.2 x0 11 2).bind fun v30 =>
(aL a.2 v30 a.1).bind fun v34 =>
(sL a.2 v21 (a.1 - 294) v34).bind fun σ35 =>
xlet (a.1 + 1) fun v36 =>
some (Sum.inl (v36, σ35)))
set_option maxHeartbeats 4000000 in
set_option maxRecDepth 100000 in
theorem lpX12_keeps_13 {X : xX} {x0 : Nat}  {a0 : Int32 × St} {b : St} (C : Ok X cX12_keeps 2 RX12 rmX12_keeps none) (hb : iterP (fLX12_keeps_13 x0) a0 = some b) (hy0 : ∀ s, b = s → V X (0, 0) s 42 [(0, .ref (x0))] []) : V X (0, 0) a0.2 13 [(0, .ref (x0)), (1, .int (a0.1))] [] := by
  obtain ⟨n, hn⟩ := iterP_some hb
  refine x_loop (P := fun a => V X (0, 0) a.2 13 [(0, .ref (x0)), (1, .int (a.1))] []) ?_ n a0 hn
  intro a c hf hK hxx
  have hx0 : ∀ s, c = Sum.inr s → V X (0, 0) s 42 [(0, .ref (x0))] [] := fun s e => hy0 s (hxx _ e).symm
  unfold fLX12_keeps_13 at hf
  refine x_iload_n C dX12_keeps_13 14 rfl 1 rfl rfl ?_
  refine x_sipush C dX12_keeps_14 17 rfl 5880 (by decide) ?_
  refine x_icmp_ge C dX12_keeps_17 42 (by decide) 20 rfl (fun hc => ?_) (fun hc => ?_)
  · have hf := (if_pos hc).symm.trans hf
    refine x_lv [0] (lv' := [(0, .ref (x0))]) rfl ?_
    exact hx0 _ (Option.some.inj hf).symm
  · have hf := (if_neg hc).symm.trans hf
    refine x_aload_n C dX12_keeps_20 21 rfl 0 rfl rfl ?_
    obtain ⟨v21, hv21, hf⟩ := x_bind hf
    refine x_getR C dX12_keeps_21 24 rfl hv21 cl11 rfl w1445 ?_
    refine x_iload_n C dX12_keeps_24 25 rfl 1 rfl rfl ?_
    refine x_sipush C dX12_keeps_25 28 rfl 294 (by decide) ?_
    refine x_isub C dX12_keeps_28 29 rfl ?_
    refine x_aload_n C dX12_keeps_29 30 rfl 0 rfl rfl ?_
    obtain ⟨v30, hv30, hf⟩ := x_bind hf
    refine x_getR C dX12_keeps_30 33 rfl hv30 cl11 rfl w1445 ?_
    refine x_iload_n C dX12_keeps_33 34 rfl 1 rfl rfl ?_
    obtain ⟨v34, hv34, hf⟩ := x_bind hf
    refine x_laload C dX12_keeps_34 35 rfl hv34 ?_
    obtain ⟨σ35, hσ35, hf⟩ := x_bind hf
    refine x_lastore C dX12_keeps_35 36 rfl hσ35 ?_
    obtain ⟨v36, ev36, hf⟩ := xlet_some hf
    refine x_iinc C dX12_keeps_36 39 rfl 1 rfl v36 ev36 rfl [(1, .int (v36)), (0, .ref (x0))] rfl ?_
    refine x_goto C dX12_keeps_39 13 (by decide) ?_
    refine x_lv [1, 0] (lv' := [(0, .ref (x0)), (1, .int (v36))]) rfl ?_
    exact hK _ (Option.some.inj hf).symm
noncomputable def fX12_keeps (σ : St) (x0 : Nat) : Option (St) :=
(gI σ x0 11 5).bind fun v1 =>
if v1 = ((20 : Int32)) then
((iterP (fLX12_keeps_13 x0) (294, σ)).bind fun b13 =>
(gI b13 x0 11 5).bind fun v44 =>
(wrF b13 x0 11 5 (.int (v44 - 1))).bind fun σ49 =>
fJX12_keeps_m_52 σ49 x0)
else
(fJX12_keeps_m_52 σ x0)
set_option maxHeartbeats 4000000 in
set_option maxRecDepth 100000 in
theorem cX12_keepsc {l : Launch} {G : xG} {A : Nat → Prop} {σ : St} {x0 : Nat} {c : St} (hf : fX12_keeps σ x0 = some c) : Con l yX12_keeps (xws yX12_keeps cX12_keeps 2 none) rmX12_keeps [.ref (x0)] G A σ none c := by
  refine x_start rfl (Nat.le_of_ble_eq_true rfl) (fun X _ _ _ C hE0 => ?_)
  have hE : ∀ r, c = r → xE1 X none r := fun r e => e ▸ hE0
  show V X (0, 0) σ 0 [(0, .ref (x0))] []
  unfold fX12_keeps at hf
  refine x_aload_n C dX12_keeps_0 1 rfl 0 rfl rfl ?_
  obtain ⟨v1, hv1, hf⟩ := x_bind hf
  refine x_getI C dX12_keeps_1 4 rfl hv1 cl11 rfl w1448 ?_
  refine x_bipush C dX12_keeps_4 6 rfl 20 (by decide) ?_
  refine x_icmp_ne C dX12_keeps_6 52 (by decide) 9 rfl (fun hc => ?_) (fun hc => ?_)
  · have hf := (if_neg hc).symm.trans hf
    exact jnX12_keeps_m_52 C hf hE
  · have hf := (if_pos hc).symm.trans hf
    refine x_sipush C dX12_keeps_9 12 rfl 294 (by decide) ?_
    refine x_istore_n C dX12_keeps_12 13 rfl rfl rfl [(1, .int (294)), (0, .ref (x0))] rfl ?_
    obtain ⟨b13, hb13, hf⟩ := x_bind hf
    refine x_lv [1, 0] (lv' := [(0, .ref (x0)), (1, .int (294))]) rfl ?_
    refine lpX12_keeps_13 C hb13 (fun s13 e13 => ?_)
    subst e13
    refine x_aload_n C dX12_keeps_42 43 rfl 0 rfl rfl ?_
    refine x_dup C dX12_keeps_43 44 rfl rfl ?_
    obtain ⟨v44, hv44, hf⟩ := x_bind hf
    refine x_getI C dX12_keeps_44 47 rfl hv44 cl11 rfl w1448 ?_
    refine x_iconst C dX12_keeps_47 48 rfl 1 (by decide) ?_
    refine x_isub C dX12_keeps_48 49 rfl ?_
    obtain ⟨σ49, hσ49, hf⟩ := x_bind hf
    refine x_putX C dX12_keeps_49 52 rfl hσ49 cl11 rfl w1448 rfl rfl rfl ?_
    exact jnX12_keeps_m_52 C hf hE
theorem dX12_close_0 : decode cX12_close 0 = .ok (.aload_n 0, 1) := by decide +kernel
theorem dX12_close_1 : decode cX12_close 1 = .ok (.iconst 0, 1) := by decide +kernel
theorem dX12_close_2 : decode cX12_close 2 = .ok (.putfield 1, 3) := by decide +kernel
theorem dX12_close_5 : decode cX12_close 5 = .ok (.aload_n 0, 1) := by decide +kernel
theorem dX12_close_6 : decode cX12_close 6 = .ok (.iload_n 1, 1) := by decide +kernel
theorem dX12_close_7 : decode cX12_close 7 = .ok (.i2l, 1) := by decide +kernel
theorem dX12_close_8 : decode cX12_close 8 = .ok (.lconst 1, 1) := by decide +kernel
theorem dX12_close_9 : decode cX12_close 9 = .ok (.ldc2_w 379, 3) := by decide +kernel
theorem dX12_close_12 : decode cX12_close 12 = .ok (.invokestatic 130, 3) := by decide +kernel
theorem dX12_close_15 : decode cX12_close 15 = .ok (.iconst 1, 1) := by decide +kernel
theorem dX12_close_16 : decode cX12_close 16 = .ok (.invokevirtual 265, 3) := by decide +kernel
theorem dX12_close_19 : decode cX12_close 19 = .ok (.ifCond .ne 5, 3) := by decide +kernel
theorem dX12_close_22 : decode cX12_close 22 = .ok (.iconst 0, 1) := by decide +kernel
theorem dX12_close_23 : decode cX12_close 23 = .ok (.ireturn, 1) := by decide +kernel
theorem dX12_close_24 : decode cX12_close 24 = .ok (.iconst 0, 1) := by decide +kernel
theorem dX12_close_25 : decode cX12_close 25 = .ok (.istore_n 2, 1) := by decide +kernel
theorem dX12_close_26 : decode cX12_close 26 = .ok (.iload_n 2, 1) := by decide +kernel
theorem dX12_close_27 : decode cX12_close 27 = .ok (.aload_n 0, 1) := by decide +kernel
theorem dX12_close_28 : decode cX12_close 28 = .ok (.invokevirtual 273, 3) := by decide +kernel
theorem dX12_close_31 : decode cX12_close 31 = .ok (.if_icmp .ge 19, 3) := by decide +kernel
theorem dX12_close_34 : decode cX12_close 34 = .ok (.aload_n 0, 1) := by decide +kernel
theorem dX12_close_35 : decode cX12_close 35 = .ok (.iload_n 2, 1) := by decide +kernel
theorem dX12_close_36 : decode cX12_close 36 = .ok (.invokevirtual 381, 3) := by decide +kernel
theorem dX12_close_39 : decode cX12_close 39 = .ok (.ifCond .ne 5, 3) := by decide +kernel
theorem dX12_close_42 : decode cX12_close 42 = .ok (.iconst (-1), 1) := by decide +kernel
theorem dX12_close_43 : decode cX12_close 43 = .ok (.ireturn, 1) := by decide +kernel
theorem dX12_close_44 : decode cX12_close 44 = .ok (.iinc 2 1, 3) := by decide +kernel
theorem dX12_close_47 : decode cX12_close 47 = .ok (.goto (-21), 3) := by decide +kernel
theorem dX12_close_50 : decode cX12_close 50 = .ok (.aload_n 0, 1) := by decide +kernel
theorem dX12_close_51 : decode cX12_close 51 = .ok (.invokevirtual 384, 3) := by decide +kernel
theorem dX12_close_54 : decode cX12_close 54 = .ok (.iconst 0, 1) := by decide +kernel
theorem dX12_close_55 : decode cX12_close 55 = .ok (.istore_n 2, 1) := by decide +kernel
theorem dX12_close_56 : decode cX12_close 56 = .ok (.iload_n 2, 1) := by decide +kernel
theorem dX12_close_57 : decode cX12_close 57 = .ok (.iload_n 1, 1) := by decide +kernel
theorem dX12_close_58 : decode cX12_close 58 = .ok (.if_icmp .ge 25, 3) := by decide +kernel
theorem dX12_close_61 : decode cX12_close 61 = .ok (.aload_n 0, 1) := by decide +kernel
theorem dX12_close_62 : decode cX12_close 62 = .ok (.invokevirtual 273, 3) := by decide +kernel
theorem dX12_close_65 : decode cX12_close 65 = .ok (.bipush 12, 2) := by decide +kernel
theorem dX12_close_67 : decode cX12_close 67 = .ok (.if_icmp .ge 16, 3) := by decide +kernel
theorem dX12_close_70 : decode cX12_close 70 = .ok (.aload_n 0, 1) := by decide +kernel
theorem dX12_close_71 : decode cX12_close 71 = .ok (.invokevirtual 387, 3) := by decide +kernel
theorem dX12_close_74 : decode cX12_close 74 = .ok (.ifCond .eq 9, 3) := by decide +kernel
theorem dX12_close_77 : decode cX12_close 77 = .ok (.iinc 2 1, 3) := by decide +kernel
theorem dX12_close_80 : decode cX12_close 80 = .ok (.goto (-24), 3) := by decide +kernel
theorem dX12_close_83 : decode cX12_close 83 = .ok (.iload_n 2, 1) := by decide +kernel
theorem dX12_close_84 : decode cX12_close 84 = .ok (.ireturn, 1) := by decide +kernel
abbrev rmX12_close : Room := { frames := 10, cells := 0, slots := 0, locals := 250 }
noncomputable def fLX12_close_26 (σ : St) (x0 : Nat) (x1 : Int32) (a : Int32) : Option ((Int32) ⊕ ((Unit) ⊕ (Unit))) :=
(isO σ x0 11).bind fun _ =>
(fX12_rules σ x0).bind fun w28 =>
if w28 ≤ a then
(some (Sum.inr (Sum.inr ())))
else
((isO σ x0 11).bind fun _ =>
(fX12_doesFall σ x0 a).bind fun w36 =>
if w36 = 0 then
(some (Sum.inr (Sum.inl ())))
else
(xlet (a + 1) fun v44 =>
some (Sum.inl v44)))
set_option maxHeartbeats 4000000 in
set_option maxRecDepth 100000 in
theorem lpX12_close_26 {X : xX} {σ : St} {x0 : Nat} {x1 : Int32}  {a0 : Int32} {b : (Unit) ⊕ (Unit)} (C : Ok X cX12_close 3 RX12 rmX12_close (some .int)) (hb : iterP (fLX12_close_26 σ x0 x1) a0 = some b) (hy0 : ∀ s, b = (Sum.inl s) → V X (0, 0) σ 42 [] []) (hy1 : ∀ s, b = (Sum.inr s) → V X (0, 0) σ 50 [(0, .ref (x0)), (1, .int (x1))] []) : V X (0, 0) σ 26 [(0, .ref (x0)), (1, .int (x1)), (2, .int (a0))] [] := by
  obtain ⟨n, hn⟩ := iterP_some hb
  refine x_loop (P := fun a => V X (0, 0) σ 26 [(0, .ref (x0)), (1, .int (x1)), (2, .int (a))] []) ?_ n a0 hn
  intro a c hf hK hxx
  have hx0 : ∀ s, c = Sum.inr (Sum.inl s) → V X (0, 0) σ 42 [] [] := fun s e => hy0 s (hxx _ e).symm
  have hx1 : ∀ s, c = Sum.inr (Sum.inr s) → V X (0, 0) σ 50 [(0, .ref (x0)), (1, .int (x1))] [] := fun s e => hy1 s (hxx _ e).symm
  unfold fLX12_close_26 at hf
  refine x_iload_n C dX12_close_26 27 rfl 2 rfl rfl ?_
  refine x_aload_n C dX12_close_27 28 rfl 0 rfl rfl ?_
  obtain ⟨o28, ho28, hf⟩ := x_bind hf
  obtain ⟨w28, hw28, hf⟩ := x_bind hf
  refine x_callVi C dX12_close_28 31 rfl ho28 cl11.1 rfl (cX12_rulesc hw28) kX12_rules kvX12_rules w1735 ⟨rfl, rfl⟩ ⟨Nat.le_of_ble_eq_true rfl, Nat.le_of_ble_eq_true rfl⟩ ⟨Nat.zero_le _, Nat.zero_le _⟩ rfl rfl (Nat.le_of_ble_eq_true rfl) ?_
  refine x_icmp_ge C dX12_close_31 50 (by decide) 34 rfl (fun hc => ?_) (fun hc => ?_)
  · have hf := (if_pos hc).symm.trans hf
    refine x_lv [0, 1] (lv' := [(0, .ref (x0)), (1, .int (x1))]) rfl ?_
    exact hx1 _ (Option.some.inj hf).symm
  · have hf := (if_neg hc).symm.trans hf
    refine x_aload_n C dX12_close_34 35 rfl 0 rfl rfl ?_
    refine x_iload_n C dX12_close_35 36 rfl 2 rfl rfl ?_
    obtain ⟨o36, ho36, hf⟩ := x_bind hf
    obtain ⟨w36, hw36, hf⟩ := x_bind hf
    refine x_callVi C dX12_close_36 39 rfl ho36 cl11.1 rfl (cX12_doesFallc hw36) kX12_doesFall kvX12_doesFall w1748 ⟨rfl, rfl⟩ ⟨Nat.le_of_ble_eq_true rfl, Nat.le_of_ble_eq_true rfl⟩ ⟨Nat.zero_le _, Nat.zero_le _⟩ rfl rfl (Nat.le_of_ble_eq_true rfl) ?_
    refine x_if_ne C dX12_close_39 44 (by decide) 42 rfl (fun hc => ?_) (fun hc => ?_)
    · have hf := (if_neg hc).symm.trans hf
      obtain ⟨v44, ev44, hf⟩ := xlet_some hf
      refine x_iinc C dX12_close_44 47 rfl 2 rfl v44 ev44 rfl [(2, .int (v44)), (0, .ref (x0)), (1, .int (x1))] rfl ?_
      refine x_goto C dX12_close_47 26 (by decide) ?_
      refine x_lv [1, 2, 0] (lv' := [(0, .ref (x0)), (1, .int (x1)), (2, .int (v44))]) rfl ?_
      exact hK _ (Option.some.inj hf).symm
    · have hf := (if_pos hc).symm.trans hf
      refine x_lv [] (lv' := []) rfl ?_
      exact hx0 _ (Option.some.inj hf).symm
noncomputable def fLX12_close_56 (x0 : Nat) (x1 : Int32) (a : Int32 × St) : Option ((Int32 × St) ⊕ (Int32 × St)) :=
if x1 ≤ a.1 then
(some (Sum.inr (a.1, a.2)))
else
((isO a.2 x0 11).bind fun _ =>
(fX12_rules a.2 x0).bind fun w62 =>
if ((12 : Int32)) ≤ w62 then
(some (Sum.inr (a.1, a.2)))
else
((isO a.2 x0 11).bind fun _ =>
(fX12_addsRule a.2 x0).bind fun w71 =>
if w71.1 = 0 then
(some (Sum.inr (a.1, w71.2)))
else
(xlet (a.1 + 1) fun v77 =>
some (Sum.inl (v77, w71.2)))))
set_option maxHeartbeats 4000000 in
set_option maxRecDepth 100000 in
theorem lpX12_close_56 {X : xX} {x0 : Nat} {x1 : Int32}  {a0 : Int32 × St} {b : Int32 × St} (C : Ok X cX12_close 3 RX12 rmX12_close (some .int)) (hb : iterP (fLX12_close_56 x0 x1) a0 = some b) (hy0 : ∀ s, b = s → V X (0, 0) s.2 83 [(2, .int (s.1))] []) : V X (0, 0) a0.2 56 [(0, .ref (x0)), (1, .int (x1)), (2, .int (a0.1))] [] := by
  obtain ⟨n, hn⟩ := iterP_some hb
  refine x_loop (P := fun a => V X (0, 0) a.2 56 [(0, .ref (x0)), (1, .int (x1)), (2, .int (a.1))] []) ?_ n a0 hn
  intro a c hf hK hxx
  have hx0 : ∀ s, c = Sum.inr s → V X (0, 0) s.2 83 [(2, .int (s.1))] [] := fun s e => hy0 s (hxx _ e).symm
  unfold fLX12_close_56 at hf
  refine x_iload_n C dX12_close_56 57 rfl 2 rfl rfl ?_
  refine x_iload_n C dX12_close_57 58 rfl 1 rfl rfl ?_
  refine x_icmp_ge C dX12_close_58 83 (by decide) 61 rfl (fun hc => ?_) (fun hc => ?_)
  · have hf := (if_pos hc).symm.trans hf
    refine x_lv [2] (lv' := [(2, .int (a.1))]) rfl ?_
    exact hx0 _ (Option.some.inj hf).symm
  · have hf := (if_neg hc).symm.trans hf
    refine x_aload_n C dX12_close_61 62 rfl 0 rfl rfl ?_
    obtain ⟨o62, ho62, hf⟩ := x_bind hf
    obtain ⟨w62, hw62, hf⟩ := x_bind hf
    refine x_callVi C dX12_close_62 65 rfl ho62 cl11.1 rfl (cX12_rulesc hw62) kX12_rules kvX12_rules w1735 ⟨rfl, rfl⟩ ⟨Nat.le_of_ble_eq_true rfl, Nat.le_of_ble_eq_true rfl⟩ ⟨Nat.zero_le _, Nat.zero_le _⟩ rfl rfl (Nat.le_of_ble_eq_true rfl) ?_
    refine x_bipush C dX12_close_65 67 rfl 12 (by decide) ?_
    refine x_icmp_ge C dX12_close_67 83 (by decide) 70 rfl (fun hc => ?_) (fun hc => ?_)
    · have hf := (if_pos hc).symm.trans hf
      refine x_lv [2] (lv' := [(2, .int (a.1))]) rfl ?_
      exact hx0 _ (Option.some.inj hf).symm
    · have hf := (if_neg hc).symm.trans hf
      refine x_aload_n C dX12_close_70 71 rfl 0 rfl rfl ?_
      obtain ⟨o71, ho71, hf⟩ := x_bind hf
      obtain ⟨w71, hw71, hf⟩ := x_bind hf
      refine x_callVi C dX12_close_71 74 rfl ho71 cl11.1 rfl (cX12_addsRulec hw71) kX12_addsRule kvX12_addsRule w1776 ⟨rfl, rfl⟩ ⟨Nat.le_of_ble_eq_true rfl, Nat.le_of_ble_eq_true rfl⟩ ⟨Nat.zero_le _, Nat.zero_le _⟩ rfl rfl (Nat.le_of_ble_eq_true rfl) ?_
      refine x_if_eq C dX12_close_74 83 (by decide) 77 rfl (fun hc => ?_) (fun hc => ?_)
      · have hf := (if_pos hc).symm.trans hf
        refine x_lv [2] (lv' := [(2, .int (a.1))]) rfl ?_
        exact hx0 _ (Option.some.inj hf).symm
      · have hf := (if_neg hc).symm.trans hf
        obtain ⟨v77, ev77, hf⟩ := xlet_some hf
        refine x_iinc C dX12_close_77 80 rfl 2 rfl v77 ev77 rfl [(2, .int (v77)), (0, .ref (x0)), (1, .int (x1))] rfl ?_
        refine x_goto C dX12_close_80 56 (by decide) ?_
        refine x_lv [1, 2, 0] (lv' := [(0, .ref (x0)), (1, .int (x1)), (2, .int (v77))]) rfl ?_
        exact hK _ (Option.some.inj hf).symm
noncomputable def fX12_close (σ : St) (x0 : Nat) (x1 : Int32) : Option ((Int32 × St)) :=
(wrF σ x0 11 0 (.int (0))).bind fun σ2 =>
(fX12_isIn x1.toInt64 1 10).bind fun w12 =>
(isO σ2 x0 11).bind fun _ =>
(fX12_right σ2 x0 w12 1).bind fun w16 =>
if w16.1 = 0 then
(some (0, w16.2))
else
((iterP (fLX12_close_26 w16.2 x0 x1) 0).bind fun b26 =>
(match b26 with
| .inl s26 =>
some ((-1), w16.2)
| .inr s26 =>
(isO w16.2 x0 11).bind fun _ =>
(fX12_keeps w16.2 x0).bind fun w51 =>
(iterP (fLX12_close_56 x0 x1) (0, w51)).bind fun b56 =>
some (b56.1, b56.2)))
set_option maxHeartbeats 4000000 in
set_option maxRecDepth 100000 in
theorem cX12_closec {l : Launch} {G : xG} {A : Nat → Prop} {σ : St} {x0 : Nat} {x1 : Int32} {c : (Int32 × St)} (hf : fX12_close σ x0 x1 = some c) : Con l yX12_close (xws yX12_close cX12_close 3 (some .int)) rmX12_close [.ref (x0), .int (x1)] G A σ (some (.int c.1)) c.2 := by
  refine x_start rfl (Nat.le_of_ble_eq_true rfl) (fun X _ _ _ C hE0 => ?_)
  have hE : ∀ r, c = r → xE1 X (some (.int r.1)) r.2 := fun r e => e ▸ hE0
  show V X (0, 0) σ 0 [(0, .ref (x0)), (1, .int (x1))] []
  unfold fX12_close at hf
  refine x_aload_n C dX12_close_0 1 rfl 0 rfl rfl ?_
  refine x_iconst C dX12_close_1 2 rfl 0 (by decide) ?_
  obtain ⟨σ2, hσ2, hf⟩ := x_bind hf
  refine x_putX C dX12_close_2 5 rfl hσ2 cl11 rfl w1443 rfl rfl rfl ?_
  refine x_aload_n C dX12_close_5 6 rfl 0 rfl rfl ?_
  refine x_iload_n C dX12_close_6 7 rfl 1 rfl rfl ?_
  refine x_i2l C dX12_close_7 8 rfl ?_
  refine x_lconst C dX12_close_8 9 rfl 1 (by decide) ?_
  refine x_ldc2 C dX12_close_9 12 rfl w1747 ?_
  obtain ⟨w12, hw12, hf⟩ := x_bind hf
  refine x_callSi C dX12_close_12 15 rfl (cX12_isInc hw12) kX12_isIn ksX12_isIn w1645 ⟨rfl, rfl⟩ ⟨Nat.le_of_ble_eq_true rfl, Nat.le_of_ble_eq_true rfl⟩ ⟨Nat.zero_le _, Nat.zero_le _⟩ rfl rfl (Nat.le_of_ble_eq_true rfl) ?_
  refine x_iconst C dX12_close_15 16 rfl 1 (by decide) ?_
  obtain ⟨o16, ho16, hf⟩ := x_bind hf
  obtain ⟨w16, hw16, hf⟩ := x_bind hf
  refine x_callVi C dX12_close_16 19 rfl ho16 cl11.1 rfl (cX12_rightc hw16) kX12_right kvX12_right w1648 ⟨rfl, rfl⟩ ⟨Nat.le_of_ble_eq_true rfl, Nat.le_of_ble_eq_true rfl⟩ ⟨Nat.zero_le _, Nat.zero_le _⟩ rfl rfl (Nat.le_of_ble_eq_true rfl) ?_
  refine x_if_ne C dX12_close_19 24 (by decide) 22 rfl (fun hc => ?_) (fun hc => ?_)
  · have hf := (if_neg hc).symm.trans hf
    refine x_iconst C dX12_close_24 25 rfl 0 (by decide) ?_
    refine x_istore_n C dX12_close_25 26 rfl rfl rfl [(2, .int (0)), (0, .ref (x0)), (1, .int (x1))] rfl ?_
    obtain ⟨b26, hb26, hf⟩ := x_bind hf
    refine x_lv [1, 2, 0] (lv' := [(0, .ref (x0)), (1, .int (x1)), (2, .int (0))]) rfl ?_
    refine lpX12_close_26 C hb26 (fun s26 e26 => ?_) (fun s26 e26 => ?_)
    · subst e26
      try dsimp only at hf
      refine x_iconst C dX12_close_42 43 rfl (-1) (by decide) ?_
      exact x_iret C (hE _ (Option.some.inj hf).symm) dX12_close_43
    · subst e26
      try dsimp only at hf
      refine x_aload_n C dX12_close_50 51 rfl 0 rfl rfl ?_
      obtain ⟨o51, ho51, hf⟩ := x_bind hf
      obtain ⟨w51, hw51, hf⟩ := x_bind hf
      refine x_callVv C dX12_close_51 54 rfl ho51 cl11.1 rfl (cX12_keepsc hw51) kX12_keeps kvX12_keeps w1772 ⟨rfl, rfl⟩ ⟨Nat.le_of_ble_eq_true rfl, Nat.le_of_ble_eq_true rfl⟩ ⟨Nat.zero_le _, Nat.zero_le _⟩ rfl rfl (Nat.le_of_ble_eq_true rfl) ?_
      refine x_iconst C dX12_close_54 55 rfl 0 (by decide) ?_
      refine x_istore_n C dX12_close_55 56 rfl rfl rfl [(2, .int (0)), (0, .ref (x0)), (1, .int (x1))] rfl ?_
      obtain ⟨b56, hb56, hf⟩ := x_bind hf
      refine x_lv [1, 2, 0] (lv' := [(0, .ref (x0)), (1, .int (x1)), (2, .int (0))]) rfl ?_
      refine lpX12_close_56 C hb56 (fun s56 e56 => ?_)
      subst e56
      refine x_iload_n C dX12_close_83 84 rfl 0 rfl rfl ?_
      exact x_iret C (hE _ (Option.some.inj hf).symm) dX12_close_84
  · have hf := (if_pos hc).symm.trans hf
    refine x_iconst C dX12_close_22 23 rfl 0 (by decide) ?_
    exact x_iret C (hE _ (Option.some.inj hf).symm) dX12_close_23
theorem dX12_comes_0 : decode cX12_comes 0 = .ok (.bipush 24, 2) := by decide +kernel
theorem dX12_comes_2 : decode cX12_comes 2 = .ok (.istore_n 2, 1) := by decide +kernel
theorem dX12_comes_3 : decode cX12_comes 3 = .ok (.iload_n 2, 1) := by decide +kernel
theorem dX12_comes_4 : decode cX12_comes 4 = .ok (.ifCond .lt 32, 3) := by decide +kernel
theorem dX12_comes_7 : decode cX12_comes 7 = .ok (.aload_n 0, 1) := by decide +kernel
theorem dX12_comes_8 : decode cX12_comes 8 = .ok (.getfield 23, 3) := by decide +kernel
theorem dX12_comes_11 : decode cX12_comes 11 = .ok (.aload_n 0, 1) := by decide +kernel
theorem dX12_comes_12 : decode cX12_comes 12 = .ok (.getfield 168, 3) := by decide +kernel
theorem dX12_comes_15 : decode cX12_comes 15 = .ok (.iload_n 1, 1) := by decide +kernel
theorem dX12_comes_16 : decode cX12_comes 16 = .ok (.iload_n 2, 1) := by decide +kernel
theorem dX12_comes_17 : decode cX12_comes 17 = .ok (.ishr, 1) := by decide +kernel
theorem dX12_comes_18 : decode cX12_comes 18 = .ok (.i2b, 1) := by decide +kernel
theorem dX12_comes_19 : decode cX12_comes 19 = .ok (.bastore, 1) := by decide +kernel
theorem dX12_comes_20 : decode cX12_comes 20 = .ok (.aload_n 0, 1) := by decide +kernel
theorem dX12_comes_21 : decode cX12_comes 21 = .ok (.dup, 1) := by decide +kernel
theorem dX12_comes_22 : decode cX12_comes 22 = .ok (.getfield 168, 3) := by decide +kernel
theorem dX12_comes_25 : decode cX12_comes 25 = .ok (.iconst 1, 1) := by decide +kernel
theorem dX12_comes_26 : decode cX12_comes 26 = .ok (.iadd, 1) := by decide +kernel
theorem dX12_comes_27 : decode cX12_comes 27 = .ok (.putfield 168, 3) := by decide +kernel
theorem dX12_comes_30 : decode cX12_comes 30 = .ok (.iinc 2 (-8), 3) := by decide +kernel
theorem dX12_comes_33 : decode cX12_comes 33 = .ok (.goto (-30), 3) := by decide +kernel
theorem dX12_comes_36 : decode cX12_comes 36 = .ok (.return_, 1) := by decide +kernel
abbrev rmX12_comes : Room := { frames := 0, cells := 0, slots := 0, locals := 0 }
noncomputable def fLX12_comes_3 (x0 : Nat) (x1 : Int32) (a : Int32 × St) : Option ((Int32 × St) ⊕ (St)) :=
if a.1 < 0 then
(some (Sum.inr a.2))
else
((gR a.2 x0 11 6).bind fun v8 =>
(gI a.2 x0 11 7).bind fun v12 =>
(sB a.2 v8 v12 ((x1 >>> (a.1 &&& 31)).toInt8.toInt32)).bind fun σ19 =>
(gI σ19 x0 11 7).bind fun v22 =>
(wrF σ19 x0 11 7 (.int (v22 + 1))).bind fun σ27 =>
xlet (a.1 + (-8)) fun v30 =>
some (Sum.inl (v30, σ27)))
set_option maxHeartbeats 4000000 in
set_option maxRecDepth 100000 in
theorem lpX12_comes_3 {X : xX} {x0 : Nat} {x1 : Int32}  {a0 : Int32 × St} {b : St} (C : Ok X cX12_comes 3 RX12 rmX12_comes none) (hb : iterP (fLX12_comes_3 x0 x1) a0 = some b) (hy0 : ∀ s, b = s → V X (0, 0) s 36 [] []) : V X (0, 0) a0.2 3 [(0, .ref (x0)), (1, .int (x1)), (2, .int (a0.1))] [] := by
  obtain ⟨n, hn⟩ := iterP_some hb
  refine x_loop (P := fun a => V X (0, 0) a.2 3 [(0, .ref (x0)), (1, .int (x1)), (2, .int (a.1))] []) ?_ n a0 hn
  intro a c hf hK hxx
  have hx0 : ∀ s, c = Sum.inr s → V X (0, 0) s 36 [] [] := fun s e => hy0 s (hxx _ e).symm
  unfold fLX12_comes_3 at hf
  refine x_iload_n C dX12_comes_3 4 rfl 2 rfl rfl ?_
  refine x_if_lt C dX12_comes_4 36 (by decide) 7 rfl (fun hc => ?_) (fun hc => ?_)
  · have hf := (if_pos hc).symm.trans hf
    refine x_lv [] (lv' := []) rfl ?_
    exact hx0 _ (Option.some.inj hf).symm
  · have hf := (if_neg hc).symm.trans hf
    refine x_aload_n C dX12_comes_7 8 rfl 0 rfl rfl ?_
    obtain ⟨v8, hv8, hf⟩ := x_bind hf
    refine x_getR C dX12_comes_8 11 rfl hv8 cl11 rfl w1449 ?_
    refine x_aload_n C dX12_comes_11 12 rfl 0 rfl rfl ?_
    obtain ⟨v12, hv12, hf⟩ := x_bind hf
    refine x_getI C dX12_comes_12 15 rfl hv12 cl11 rfl w1450 ?_
    refine x_iload_n C dX12_comes_15 16 rfl 1 rfl rfl ?_
    refine x_iload_n C dX12_comes_16 17 rfl 2 rfl rfl ?_
    refine x_ishr C dX12_comes_17 18 rfl ?_
    refine x_i2b C dX12_comes_18 19 rfl ?_
    obtain ⟨σ19, hσ19, hf⟩ := x_bind hf
    refine x_bastore C dX12_comes_19 20 rfl hσ19 ?_
    refine x_aload_n C dX12_comes_20 21 rfl 0 rfl rfl ?_
    refine x_dup C dX12_comes_21 22 rfl rfl ?_
    obtain ⟨v22, hv22, hf⟩ := x_bind hf
    refine x_getI C dX12_comes_22 25 rfl hv22 cl11 rfl w1450 ?_
    refine x_iconst C dX12_comes_25 26 rfl 1 (by decide) ?_
    refine x_iadd C dX12_comes_26 27 rfl ?_
    obtain ⟨σ27, hσ27, hf⟩ := x_bind hf
    refine x_putX C dX12_comes_27 30 rfl hσ27 cl11 rfl w1450 rfl rfl rfl ?_
    obtain ⟨v30, ev30, hf⟩ := xlet_some hf
    refine x_iinc C dX12_comes_30 33 rfl 2 rfl v30 ev30 rfl [(2, .int (v30)), (0, .ref (x0)), (1, .int (x1))] rfl ?_
    refine x_goto C dX12_comes_33 3 (by decide) ?_
    refine x_lv [1, 2, 0] (lv' := [(0, .ref (x0)), (1, .int (x1)), (2, .int (v30))]) rfl ?_
    exact hK _ (Option.some.inj hf).symm
noncomputable def fX12_comes (σ : St) (x0 : Nat) (x1 : Int32) : Option (St) :=
(iterP (fLX12_comes_3 x0 x1) (24, σ)).bind fun b3 =>
some b3
set_option maxHeartbeats 4000000 in
set_option maxRecDepth 100000 in
theorem cX12_comesc {l : Launch} {G : xG} {A : Nat → Prop} {σ : St} {x0 : Nat} {x1 : Int32} {c : St} (hf : fX12_comes σ x0 x1 = some c) : Con l yX12_comes (xws yX12_comes cX12_comes 3 none) rmX12_comes [.ref (x0), .int (x1)] G A σ none c := by
  refine x_start rfl (Nat.le_of_ble_eq_true rfl) (fun X _ _ _ C hE0 => ?_)
  have hE : ∀ r, c = r → xE1 X none r := fun r e => e ▸ hE0
  show V X (0, 0) σ 0 [(0, .ref (x0)), (1, .int (x1))] []
  unfold fX12_comes at hf
  refine x_bipush C dX12_comes_0 2 rfl 24 (by decide) ?_
  refine x_istore_n C dX12_comes_2 3 rfl rfl rfl [(2, .int (24)), (0, .ref (x0)), (1, .int (x1))] rfl ?_
  obtain ⟨b3, hb3, hf⟩ := x_bind hf
  refine x_lv [1, 2, 0] (lv' := [(0, .ref (x0)), (1, .int (x1)), (2, .int (24))]) rfl ?_
  refine lpX12_comes_3 C hb3 (fun s3 e3 => ?_)
  subst e3
  exact x_vret C (hE _ (Option.some.inj hf).symm) dX12_comes_36
theorem dX12_comesTo_0 : decode cX12_comesTo 0 = .ok (.iconst 0, 1) := by decide +kernel
theorem dX12_comesTo_1 : decode cX12_comesTo 1 = .ok (.istore 5, 2) := by decide +kernel
theorem dX12_comesTo_3 : decode cX12_comesTo 3 = .ok (.aload_n 0, 1) := by decide +kernel
theorem dX12_comesTo_4 : decode cX12_comesTo 4 = .ok (.lload_n 1, 1) := by decide +kernel
theorem dX12_comesTo_5 : decode cX12_comesTo 5 = .ok (.iload 5, 2) := by decide +kernel
theorem dX12_comesTo_7 : decode cX12_comesTo 7 = .ok (.invokevirtual 305, 3) := by decide +kernel
theorem dX12_comesTo_10 : decode cX12_comesTo 10 = .ok (.ifCond .eq 20, 3) := by decide +kernel
theorem dX12_comesTo_13 : decode cX12_comesTo 13 = .ok (.aload_n 0, 1) := by decide +kernel
theorem dX12_comesTo_14 : decode cX12_comesTo 14 = .ok (.getfield 301, 3) := by decide +kernel
theorem dX12_comesTo_17 : decode cX12_comesTo 17 = .ok (.lload_n 3, 1) := by decide +kernel
theorem dX12_comesTo_18 : decode cX12_comesTo 18 = .ok (.lcmp, 1) := by decide +kernel
theorem dX12_comesTo_19 : decode cX12_comesTo 19 = .ok (.ifCond .ne 5, 3) := by decide +kernel
theorem dX12_comesTo_22 : decode cX12_comesTo 22 = .ok (.iconst 1, 1) := by decide +kernel
theorem dX12_comesTo_23 : decode cX12_comesTo 23 = .ok (.ireturn, 1) := by decide +kernel
theorem dX12_comesTo_24 : decode cX12_comesTo 24 = .ok (.iinc 5 1, 3) := by decide +kernel
theorem dX12_comesTo_27 : decode cX12_comesTo 27 = .ok (.goto (-24), 3) := by decide +kernel
theorem dX12_comesTo_30 : decode cX12_comesTo 30 = .ok (.iconst 0, 1) := by decide +kernel
theorem dX12_comesTo_31 : decode cX12_comesTo 31 = .ok (.ireturn, 1) := by decide +kernel
abbrev rmX12_comesTo : Room := { frames := 5, cells := 0, slots := 0, locals := 129 }
noncomputable def fLX12_comesTo_3 (x0 : Nat) (x1 : Int64) (x3 : Int64) (a : Int32 × St) : Option ((Int32 × St) ⊕ ((St) ⊕ (St))) :=
(isO a.2 x0 11).bind fun _ =>
(fX12_finds a.2 x0 x1 a.1).bind fun w7 =>
if w7.1 = 0 then
(some (Sum.inr (Sum.inr w7.2)))
else
((gL w7.2 x0 11 18).bind fun v14 =>
if (lg_cmp v14 x3) = 0 then
(some (Sum.inr (Sum.inl w7.2)))
else
(xlet (a.1 + 1) fun v24 =>
some (Sum.inl (v24, w7.2))))
set_option maxHeartbeats 4000000 in
set_option maxRecDepth 100000 in
theorem lpX12_comesTo_3 {X : xX} {x0 : Nat} {x1 : Int64} {x3 : Int64}  {a0 : Int32 × St} {b : (St) ⊕ (St)} (C : Ok X cX12_comesTo 6 RX12 rmX12_comesTo (some .boolean)) (hb : iterP (fLX12_comesTo_3 x0 x1 x3) a0 = some b) (hy0 : ∀ s, b = (Sum.inl s) → V X (0, 0) s 22 [] []) (hy1 : ∀ s, b = (Sum.inr s) → V X (0, 0) s 30 [] []) : V X (0, 0) a0.2 3 [(0, .ref (x0)), (1, .long (x1)), (3, .long (x3)), (5, .int (a0.1))] [] := by
  obtain ⟨n, hn⟩ := iterP_some hb
  refine x_loop (P := fun a => V X (0, 0) a.2 3 [(0, .ref (x0)), (1, .long (x1)), (3, .long (x3)), (5, .int (a.1))] []) ?_ n a0 hn
  intro a c hf hK hxx
  have hx0 : ∀ s, c = Sum.inr (Sum.inl s) → V X (0, 0) s 22 [] [] := fun s e => hy0 s (hxx _ e).symm
  have hx1 : ∀ s, c = Sum.inr (Sum.inr s) → V X (0, 0) s 30 [] [] := fun s e => hy1 s (hxx _ e).symm
  unfold fLX12_comesTo_3 at hf
  refine x_aload_n C dX12_comesTo_3 4 rfl 0 rfl rfl ?_
  refine x_lload_n C dX12_comesTo_4 5 rfl 1 rfl rfl ?_
  refine x_iload C dX12_comesTo_5 7 rfl 3 rfl ?_
  obtain ⟨o7, ho7, hf⟩ := x_bind hf
  obtain ⟨w7, hw7, hf⟩ := x_bind hf
  refine x_callVi C dX12_comesTo_7 10 rfl ho7 cl11.1 rfl (cX12_findsc hw7) kX12_finds kvX12_finds w1810 ⟨rfl, rfl⟩ ⟨Nat.le_of_ble_eq_true rfl, Nat.le_of_ble_eq_true rfl⟩ ⟨Nat.zero_le _, Nat.zero_le _⟩ rfl rfl (Nat.le_of_ble_eq_true rfl) ?_
  refine x_if_eq C dX12_comesTo_10 30 (by decide) 13 rfl (fun hc => ?_) (fun hc => ?_)
  · have hf := (if_pos hc).symm.trans hf
    refine x_lv [] (lv' := []) rfl ?_
    exact hx1 _ (Option.some.inj hf).symm
  · have hf := (if_neg hc).symm.trans hf
    refine x_aload_n C dX12_comesTo_13 14 rfl 0 rfl rfl ?_
    obtain ⟨v14, hv14, hf⟩ := x_bind hf
    refine x_getL C dX12_comesTo_14 17 rfl hv14 cl11 rfl w1461 ?_
    refine x_lload_n C dX12_comesTo_17 18 rfl 2 rfl rfl ?_
    refine x_lcmp C dX12_comesTo_18 19 rfl ?_
    refine x_if_ne C dX12_comesTo_19 24 (by decide) 22 rfl (fun hc => ?_) (fun hc => ?_)
    · have hf := (if_neg hc).symm.trans hf
      obtain ⟨v24, ev24, hf⟩ := xlet_some hf
      refine x_iinc C dX12_comesTo_24 27 rfl 3 rfl v24 ev24 rfl [(5, .int (v24)), (0, .ref (x0)), (1, .long (x1)), (3, .long (x3))] rfl ?_
      refine x_goto C dX12_comesTo_27 3 (by decide) ?_
      refine x_lv [1, 2, 3, 0] (lv' := [(0, .ref (x0)), (1, .long (x1)), (3, .long (x3)), (5, .int (v24))]) rfl ?_
      exact hK _ (Option.some.inj hf).symm
    · have hf := (if_pos hc).symm.trans hf
      refine x_lv [] (lv' := []) rfl ?_
      exact hx0 _ (Option.some.inj hf).symm
noncomputable def fX12_comesTo (σ : St) (x0 : Nat) (x1 : Int64) (x3 : Int64) : Option ((Int32 × St)) :=
(iterP (fLX12_comesTo_3 x0 x1 x3) (0, σ)).bind fun b3 =>
(match b3 with
| .inl s3 =>
some (1, s3)
| .inr s3 =>
some (0, s3))
set_option maxHeartbeats 4000000 in
set_option maxRecDepth 100000 in
theorem cX12_comesToc {l : Launch} {G : xG} {A : Nat → Prop} {σ : St} {x0 : Nat} {x1 : Int64} {x3 : Int64} {c : (Int32 × St)} (hf : fX12_comesTo σ x0 x1 x3 = some c) : Con l yX12_comesTo (xws yX12_comesTo cX12_comesTo 6 (some .boolean)) rmX12_comesTo [.ref (x0), .long (x1), .long (x3)] G A σ (some (.int c.1)) c.2 := by
  refine x_start rfl (Nat.le_of_ble_eq_true rfl) (fun X _ _ _ C hE0 => ?_)
  have hE : ∀ r, c = r → xE1 X (some (.int r.1)) r.2 := fun r e => e ▸ hE0
  show V X (0, 0) σ 0 [(0, .ref (x0)), (1, .long (x1)), (3, .long (x3))] []
  unfold fX12_comesTo at hf
  refine x_iconst C dX12_comesTo_0 1 rfl 0 (by decide) ?_
  refine x_istore C dX12_comesTo_1 3 rfl rfl [(5, .int (0)), (0, .ref (x0)), (1, .long (x1)), (3, .long (x3))] rfl ?_
  obtain ⟨b3, hb3, hf⟩ := x_bind hf
  refine x_lv [1, 2, 3, 0] (lv' := [(0, .ref (x0)), (1, .long (x1)), (3, .long (x3)), (5, .int (0))]) rfl ?_
  refine lpX12_comesTo_3 C hb3 (fun s3 e3 => ?_) (fun s3 e3 => ?_)
  · subst e3
    try dsimp only at hf
    refine x_iconst C dX12_comesTo_22 23 rfl 1 (by decide) ?_
    exact x_zret C rfl (hE _ (Option.some.inj hf).symm) dX12_comesTo_23
  · subst e3
    try dsimp only at hf
    refine x_iconst C dX12_comesTo_30 31 rfl 0 (by decide) ?_
    exact x_zret C rfl (hE _ (Option.some.inj hf).symm) dX12_comesTo_31
theorem dX12_compare_0 : decode cX12_compare 0 = .ok (.aload_n 0, 1) := by decide +kernel
theorem dX12_compare_1 : decode cX12_compare 1 = .ok (.iconst 0, 1) := by decide +kernel
theorem dX12_compare_2 : decode cX12_compare 2 = .ok (.putfield 1, 3) := by decide +kernel
theorem dX12_compare_5 : decode cX12_compare 5 = .ok (.aload_n 0, 1) := by decide +kernel
theorem dX12_compare_6 : decode cX12_compare 6 = .ok (.iload_n 1, 1) := by decide +kernel
theorem dX12_compare_7 : decode cX12_compare 7 = .ok (.invokestatic 452, 3) := by decide +kernel
theorem dX12_compare_10 : decode cX12_compare 10 = .ok (.ifCond .eq 14, 3) := by decide +kernel
theorem dX12_compare_13 : decode cX12_compare 13 = .ok (.iload_n 2, 1) := by decide +kernel
theorem dX12_compare_14 : decode cX12_compare 14 = .ok (.invokestatic 452, 3) := by decide +kernel
theorem dX12_compare_17 : decode cX12_compare 17 = .ok (.ifCond .eq 7, 3) := by decide +kernel
theorem dX12_compare_20 : decode cX12_compare 20 = .ok (.iconst 1, 1) := by decide +kernel
theorem dX12_compare_21 : decode cX12_compare 21 = .ok (.goto 4, 3) := by decide +kernel
theorem dX12_compare_24 : decode cX12_compare 24 = .ok (.iconst 0, 1) := by decide +kernel
theorem dX12_compare_25 : decode cX12_compare 25 = .ok (.iconst 1, 1) := by decide +kernel
theorem dX12_compare_26 : decode cX12_compare 26 = .ok (.invokevirtual 265, 3) := by decide +kernel
theorem dX12_compare_29 : decode cX12_compare 29 = .ok (.ifCond .eq 20, 3) := by decide +kernel
theorem dX12_compare_32 : decode cX12_compare 32 = .ok (.aload_n 0, 1) := by decide +kernel
theorem dX12_compare_33 : decode cX12_compare 33 = .ok (.aload_n 0, 1) := by decide +kernel
theorem dX12_compare_34 : decode cX12_compare 34 = .ok (.iload_n 1, 1) := by decide +kernel
theorem dX12_compare_35 : decode cX12_compare 35 = .ok (.invokevirtual 402, 3) := by decide +kernel
theorem dX12_compare_38 : decode cX12_compare 38 = .ok (.aload_n 0, 1) := by decide +kernel
theorem dX12_compare_39 : decode cX12_compare 39 = .ok (.iload_n 2, 1) := by decide +kernel
theorem dX12_compare_40 : decode cX12_compare 40 = .ok (.invokevirtual 402, 3) := by decide +kernel
theorem dX12_compare_43 : decode cX12_compare 43 = .ok (.invokevirtual 312, 3) := by decide +kernel
theorem dX12_compare_46 : decode cX12_compare 46 = .ok (.goto 4, 3) := by decide +kernel
theorem dX12_compare_49 : decode cX12_compare 49 = .ok (.iconst 0, 1) := by decide +kernel
theorem dX12_compare_50 : decode cX12_compare 50 = .ok (.ireturn, 1) := by decide +kernel
abbrev rmX12_compare : Room := { frames := 4, cells := 0, slots := 0, locals := 96 }
noncomputable def fJX12_compare_m_25 (σ : St) (x0 : Nat) (x1 : Int32) (x2 : Int32) (t0 : Int32) (t1 : Nat) : Option ((Int32 × St)) :=
(isO σ t1 11).bind fun _ =>
(fX12_right σ t1 t0 1).bind fun w26 =>
if w26.1 = 0 then
(some (0, w26.2))
else
((isO w26.2 x0 11).bind fun _ =>
(fX12_wordAt w26.2 x0 x1).bind fun w35 =>
(isO w26.2 x0 11).bind fun _ =>
(fX12_wordAt w26.2 x0 x2).bind fun w40 =>
(isO w26.2 x0 11).bind fun _ =>
(fX12_compared w26.2 x0 w35 w40).bind fun w43 =>
some (w43, w26.2))
set_option maxHeartbeats 4000000 in
set_option maxRecDepth 100000 in
theorem jnX12_compare_m_25 {X : xX} {σ : St} {x0 : Nat} {x1 : Int32} {x2 : Int32} {t0 : Int32} {t1 : Nat}  {c : (Int32 × St)} (C : Ok X cX12_compare 3 RX12 rmX12_compare (some .int)) (hf : fJX12_compare_m_25 σ x0 x1 x2 t0 t1 = some c) (hE : ∀ r, c = r → xE1 X (some (.int r.1)) r.2) : V X (0, 0) σ 25 [(0, .ref (x0)), (1, .int (x1)), (2, .int (x2))] [.int (t0), .ref (t1)] := by
  unfold fJX12_compare_m_25 at hf
  refine x_iconst C dX12_compare_25 26 rfl 1 (by decide) ?_
  obtain ⟨o26, ho26, hf⟩ := x_bind hf
  obtain ⟨w26, hw26, hf⟩ := x_bind hf
  refine x_callVi C dX12_compare_26 29 rfl ho26 cl11.1 rfl (cX12_rightc hw26) kX12_right kvX12_right w1648 ⟨rfl, rfl⟩ ⟨Nat.le_of_ble_eq_true rfl, Nat.le_of_ble_eq_true rfl⟩ ⟨Nat.zero_le _, Nat.zero_le _⟩ rfl rfl (Nat.le_of_ble_eq_true rfl) ?_
  refine x_if_eq C dX12_compare_29 49 (by decide) 32 rfl (fun hc => ?_) (fun hc => ?_)
  · have hf := (if_pos hc).symm.trans hf
    refine x_iconst C dX12_compare_49 50 rfl 0 (by decide) ?_
    exact x_iret C (hE _ (Option.some.inj hf).symm) dX12_compare_50
  · have hf := (if_neg hc).symm.trans hf
    refine x_aload_n C dX12_compare_32 33 rfl 0 rfl rfl ?_
    refine x_aload_n C dX12_compare_33 34 rfl 0 rfl rfl ?_
    refine x_iload_n C dX12_compare_34 35 rfl 1 rfl rfl ?_
    obtain ⟨o35, ho35, hf⟩ := x_bind hf
    obtain ⟨w35, hw35, hf⟩ := x_bind hf
    refine x_callVl C dX12_compare_35 38 rfl ho35 cl11.1 rfl (cX12_wordAtc hw35) kX12_wordAt kvX12_wordAt w1845 ⟨rfl, rfl⟩ ⟨Nat.le_of_ble_eq_true rfl, Nat.le_of_ble_eq_true rfl⟩ ⟨Nat.zero_le _, Nat.zero_le _⟩ rfl rfl (Nat.le_of_ble_eq_true rfl) ?_
    refine x_aload_n C dX12_compare_38 39 rfl 0 rfl rfl ?_
    refine x_iload_n C dX12_compare_39 40 rfl 2 rfl rfl ?_
    obtain ⟨o40, ho40, hf⟩ := x_bind hf
    obtain ⟨w40, hw40, hf⟩ := x_bind hf
    refine x_callVl C dX12_compare_40 43 rfl ho40 cl11.1 rfl (cX12_wordAtc hw40) kX12_wordAt kvX12_wordAt w1845 ⟨rfl, rfl⟩ ⟨Nat.le_of_ble_eq_true rfl, Nat.le_of_ble_eq_true rfl⟩ ⟨Nat.zero_le _, Nat.zero_le _⟩ rfl rfl (Nat.le_of_ble_eq_true rfl) ?_
    obtain ⟨o43, ho43, hf⟩ := x_bind hf
    obtain ⟨w43, hw43, hf⟩ := x_bind hf
    refine x_callVi C dX12_compare_43 46 rfl ho43 cl11.1 rfl (cX12_comparedc hw43) kX12_compared kvX12_compared w1760 ⟨rfl, rfl⟩ ⟨Nat.le_of_ble_eq_true rfl, Nat.le_of_ble_eq_true rfl⟩ ⟨Nat.zero_le _, Nat.zero_le _⟩ rfl rfl (Nat.le_of_ble_eq_true rfl) ?_
    refine x_goto C dX12_compare_46 50 (by decide) ?_
    exact x_iret C (hE _ (Option.some.inj hf).symm) dX12_compare_50
noncomputable def fJX12_compare_m_24 (σ : St) (x0 : Nat) (x1 : Int32) (x2 : Int32) (t0 : Nat) : Option ((Int32 × St)) :=
fJX12_compare_m_25 σ x0 x1 x2 0 t0
set_option maxHeartbeats 4000000 in
set_option maxRecDepth 100000 in
theorem jnX12_compare_m_24 {X : xX} {σ : St} {x0 : Nat} {x1 : Int32} {x2 : Int32} {t0 : Nat}  {c : (Int32 × St)} (C : Ok X cX12_compare 3 RX12 rmX12_compare (some .int)) (hf : fJX12_compare_m_24 σ x0 x1 x2 t0 = some c) (hE : ∀ r, c = r → xE1 X (some (.int r.1)) r.2) : V X (0, 0) σ 24 [(0, .ref (x0)), (1, .int (x1)), (2, .int (x2))] [.ref (t0)] := by
  unfold fJX12_compare_m_24 at hf
  refine x_iconst C dX12_compare_24 25 rfl 0 (by decide) ?_
  exact jnX12_compare_m_25 C hf hE
noncomputable def fX12_compare (σ : St) (x0 : Nat) (x1 : Int32) (x2 : Int32) : Option ((Int32 × St)) :=
(wrF σ x0 11 0 (.int (0))).bind fun σ2 =>
(fX12_isPlace x1).bind fun w7 =>
if w7 = 0 then
(fJX12_compare_m_24 σ2 x0 x1 x2 x0)
else
((fX12_isPlace x2).bind fun w14 =>
if w14 = 0 then
(fJX12_compare_m_24 σ2 x0 x1 x2 x0)
else
(fJX12_compare_m_25 σ2 x0 x1 x2 1 x0))
set_option maxHeartbeats 4000000 in
set_option maxRecDepth 100000 in
theorem cX12_comparec {l : Launch} {G : xG} {A : Nat → Prop} {σ : St} {x0 : Nat} {x1 : Int32} {x2 : Int32} {c : (Int32 × St)} (hf : fX12_compare σ x0 x1 x2 = some c) : Con l yX12_compare (xws yX12_compare cX12_compare 3 (some .int)) rmX12_compare [.ref (x0), .int (x1), .int (x2)] G A σ (some (.int c.1)) c.2 := by
  refine x_start rfl (Nat.le_of_ble_eq_true rfl) (fun X _ _ _ C hE0 => ?_)
  have hE : ∀ r, c = r → xE1 X (some (.int r.1)) r.2 := fun r e => e ▸ hE0
  show V X (0, 0) σ 0 [(0, .ref (x0)), (1, .int (x1)), (2, .int (x2))] []
  unfold fX12_compare at hf
  refine x_aload_n C dX12_compare_0 1 rfl 0 rfl rfl ?_
  refine x_iconst C dX12_compare_1 2 rfl 0 (by decide) ?_
  obtain ⟨σ2, hσ2, hf⟩ := x_bind hf
  refine x_putX C dX12_compare_2 5 rfl hσ2 cl11 rfl w1443 rfl rfl rfl ?_
  refine x_aload_n C dX12_compare_5 6 rfl 0 rfl rfl ?_
  refine x_iload_n C dX12_compare_6 7 rfl 1 rfl rfl ?_
  obtain ⟨w7, hw7, hf⟩ := x_bind hf
  refine x_callSi C dX12_compare_7 10 rfl (cX12_isPlacec hw7) kX12_isPlace ksX12_isPlace w1942 ⟨rfl, rfl⟩ ⟨Nat.le_of_ble_eq_true rfl, Nat.le_of_ble_eq_true rfl⟩ ⟨Nat.zero_le _, Nat.zero_le _⟩ rfl rfl (Nat.le_of_ble_eq_true rfl) ?_
  refine x_if_eq C dX12_compare_10 24 (by decide) 13 rfl (fun hc => ?_) (fun hc => ?_)
  · have hf := (if_pos hc).symm.trans hf
    exact jnX12_compare_m_24 C hf hE
  · have hf := (if_neg hc).symm.trans hf
    refine x_iload_n C dX12_compare_13 14 rfl 2 rfl rfl ?_
    obtain ⟨w14, hw14, hf⟩ := x_bind hf
    refine x_callSi C dX12_compare_14 17 rfl (cX12_isPlacec hw14) kX12_isPlace ksX12_isPlace w1942 ⟨rfl, rfl⟩ ⟨Nat.le_of_ble_eq_true rfl, Nat.le_of_ble_eq_true rfl⟩ ⟨Nat.zero_le _, Nat.zero_le _⟩ rfl rfl (Nat.le_of_ble_eq_true rfl) ?_
    refine x_if_eq C dX12_compare_17 24 (by decide) 20 rfl (fun hc => ?_) (fun hc => ?_)
    · have hf := (if_pos hc).symm.trans hf
      exact jnX12_compare_m_24 C hf hE
    · have hf := (if_neg hc).symm.trans hf
      refine x_iconst C dX12_compare_20 21 rfl 1 (by decide) ?_
      refine x_goto C dX12_compare_21 25 (by decide) ?_
      exact jnX12_compare_m_25 C hf hE
theorem dX12_letters_0 : decode cX12_letters 0 = .ok (.aload_n 0, 1) := by decide +kernel
theorem dX12_letters_1 : decode cX12_letters 1 = .ok (.getfield 13, 3) := by decide +kernel
theorem dX12_letters_4 : decode cX12_letters 4 = .ok (.iconst 0, 1) := by decide +kernel
theorem dX12_letters_5 : decode cX12_letters 5 = .ok (.laload, 1) := by decide +kernel
theorem dX12_letters_6 : decode cX12_letters 6 = .ok (.l2i, 1) := by decide +kernel
theorem dX12_letters_7 : decode cX12_letters 7 = .ok (.ireturn, 1) := by decide +kernel
abbrev rmX12_letters : Room := { frames := 0, cells := 0, slots := 0, locals := 0 }
noncomputable def fX12_letters (σ : St) (x0 : Nat) : Option (Int32) :=
(gR σ x0 11 1).bind fun v1 =>
(aL σ v1 0).bind fun v5 =>
some v5.toInt32
set_option maxHeartbeats 4000000 in
set_option maxRecDepth 100000 in
theorem cX12_lettersc {l : Launch} {G : xG} {A : Nat → Prop} {σ : St} {x0 : Nat} {c : Int32} (hf : fX12_letters σ x0 = some c) : Con l yX12_letters (xws yX12_letters cX12_letters 1 (some .int)) rmX12_letters [.ref (x0)] G A σ (some (.int c)) σ := by
  refine x_start rfl (Nat.le_of_ble_eq_true rfl) (fun X _ _ _ C hE0 => ?_)
  have hE : ∀ r, c = r → xE1 X (some (.int r)) σ := fun r e => e ▸ hE0
  show V X (0, 0) σ 0 [(0, .ref (x0))] []
  unfold fX12_letters at hf
  refine x_aload_n C dX12_letters_0 1 rfl 0 rfl rfl ?_
  obtain ⟨v1, hv1, hf⟩ := x_bind hf
  refine x_getR C dX12_letters_1 4 rfl hv1 cl11 rfl w1444 ?_
  refine x_iconst C dX12_letters_4 5 rfl 0 (by decide) ?_
  obtain ⟨v5, hv5, hf⟩ := x_bind hf
  refine x_laload C dX12_letters_5 6 rfl hv5 ?_
  refine x_l2i C dX12_letters_6 7 rfl ?_
  exact x_iret C (hE _ (Option.some.inj hf).symm) dX12_letters_7
theorem dX12_often_0 : decode cX12_often 0 = .ok (.iconst 0, 1) := by decide +kernel
theorem dX12_often_1 : decode cX12_often 1 = .ok (.istore_n 3, 1) := by decide +kernel
theorem dX12_often_2 : decode cX12_often 2 = .ok (.lload_n 0, 1) := by decide +kernel
theorem dX12_often_3 : decode cX12_often 3 = .ok (.lstore 4, 2) := by decide +kernel
theorem dX12_often_5 : decode cX12_often 5 = .ok (.lload 4, 2) := by decide +kernel
theorem dX12_often_7 : decode cX12_often 7 = .ok (.lconst 0, 1) := by decide +kernel
theorem dX12_often_8 : decode cX12_often 8 = .ok (.lcmp, 1) := by decide +kernel
theorem dX12_often_9 : decode cX12_often 9 = .ok (.ifCond .le 36, 3) := by decide +kernel
theorem dX12_often_12 : decode cX12_often 12 = .ok (.iload_n 3, 1) := by decide +kernel
theorem dX12_often_13 : decode cX12_often 13 = .ok (.lload 4, 2) := by decide +kernel
theorem dX12_often_15 : decode cX12_often 15 = .ok (.ldc2_w 134, 3) := by decide +kernel
theorem dX12_often_18 : decode cX12_often 18 = .ok (.lrem, 1) := by decide +kernel
theorem dX12_often_19 : decode cX12_often 19 = .ok (.iload_n 2, 1) := by decide +kernel
theorem dX12_often_20 : decode cX12_often 20 = .ok (.i2l, 1) := by decide +kernel
theorem dX12_often_21 : decode cX12_often 21 = .ok (.lconst 1, 1) := by decide +kernel
theorem dX12_often_22 : decode cX12_often 22 = .ok (.ladd, 1) := by decide +kernel
theorem dX12_often_23 : decode cX12_often 23 = .ok (.lcmp, 1) := by decide +kernel
theorem dX12_often_24 : decode cX12_often 24 = .ok (.ifCond .ne 7, 3) := by decide +kernel
theorem dX12_often_27 : decode cX12_often 27 = .ok (.iconst 1, 1) := by decide +kernel
theorem dX12_often_28 : decode cX12_often 28 = .ok (.goto 4, 3) := by decide +kernel
theorem dX12_often_31 : decode cX12_often 31 = .ok (.iconst 0, 1) := by decide +kernel
theorem dX12_often_32 : decode cX12_often 32 = .ok (.iadd, 1) := by decide +kernel
theorem dX12_often_33 : decode cX12_often 33 = .ok (.istore_n 3, 1) := by decide +kernel
theorem dX12_often_34 : decode cX12_often 34 = .ok (.lload 4, 2) := by decide +kernel
theorem dX12_often_36 : decode cX12_often 36 = .ok (.ldc2_w 134, 3) := by decide +kernel
theorem dX12_often_39 : decode cX12_often 39 = .ok (.ldiv, 1) := by decide +kernel
theorem dX12_often_40 : decode cX12_often 40 = .ok (.lstore 4, 2) := by decide +kernel
theorem dX12_often_42 : decode cX12_often 42 = .ok (.goto (-37), 3) := by decide +kernel
theorem dX12_often_45 : decode cX12_often 45 = .ok (.iload_n 3, 1) := by decide +kernel
theorem dX12_often_46 : decode cX12_often 46 = .ok (.ireturn, 1) := by decide +kernel
abbrev rmX12_often : Room := { frames := 0, cells := 0, slots := 0, locals := 0 }
noncomputable def fLX12_often_5 (x2 : Int32) (a : Int32 × Int64) : Option ((Int32 × Int64) ⊕ (Int32)) :=
if (lg_cmp a.2 0) ≤ 0 then
(some (Sum.inr a.1))
else
(if (lg_cmp (a.2 - a.2 / 6 * 6) (x2.toInt64 + 1)) = 0 then
(xlet (a.1 + 1) fun v33 =>
xlet (a.2 / 6) fun v40 =>
some (Sum.inl (v33, v40)))
else
(xlet (a.1 + 0) fun v33 =>
xlet (a.2 / 6) fun v40 =>
some (Sum.inl (v33, v40))))
set_option maxHeartbeats 4000000 in
set_option maxRecDepth 100000 in
theorem lpX12_often_5 {X : xX} {σ : St} {x2 : Int32}  {a0 : Int32 × Int64} {b : Int32} (C : Ok X cX12_often 6 RX12 rmX12_often (some .int)) (hb : iterP (fLX12_often_5 x2) a0 = some b) (hy0 : ∀ s, b = s → V X (0, 0) σ 45 [(3, .int (s))] []) : V X (0, 0) σ 5 [(2, .int (x2)), (3, .int (a0.1)), (4, .long (a0.2))] [] := by
  obtain ⟨n, hn⟩ := iterP_some hb
  refine x_loop (P := fun a => V X (0, 0) σ 5 [(2, .int (x2)), (3, .int (a.1)), (4, .long (a.2))] []) ?_ n a0 hn
  intro a c hf hK hxx
  have hx0 : ∀ s, c = Sum.inr s → V X (0, 0) σ 45 [(3, .int (s))] [] := fun s e => hy0 s (hxx _ e).symm
  unfold fLX12_often_5 at hf
  refine x_lload C dX12_often_5 7 rfl 2 rfl ?_
  refine x_lconst C dX12_often_7 8 rfl 0 (by decide) ?_
  refine x_lcmp C dX12_often_8 9 rfl ?_
  refine x_if_le C dX12_often_9 45 (by decide) 12 rfl (fun hc => ?_) (fun hc => ?_)
  · have hf := (if_pos hc).symm.trans hf
    refine x_lv [1] (lv' := [(3, .int (a.1))]) rfl ?_
    exact hx0 _ (Option.some.inj hf).symm
  · have hf := (if_neg hc).symm.trans hf
    refine x_iload_n C dX12_often_12 13 rfl 1 rfl rfl ?_
    refine x_lload C dX12_often_13 15 rfl 2 rfl ?_
    refine x_ldc2 C dX12_often_15 18 rfl w1704 ?_
    refine x_lrem C dX12_often_18 19 rfl (by decide) ?_
    refine x_iload_n C dX12_often_19 20 rfl 0 rfl rfl ?_
    refine x_i2l C dX12_often_20 21 rfl ?_
    refine x_lconst C dX12_often_21 22 rfl 1 (by decide) ?_
    refine x_ladd C dX12_often_22 23 rfl ?_
    refine x_lcmp C dX12_often_23 24 rfl ?_
    refine x_if_ne C dX12_often_24 31 (by decide) 27 rfl (fun hc => ?_) (fun hc => ?_)
    · have hf := (if_neg hc).symm.trans hf
      refine x_iconst C dX12_often_31 32 rfl 0 (by decide) ?_
      refine x_iadd C dX12_often_32 33 rfl ?_
      obtain ⟨v33, ev33, hf⟩ := xlet_some hf
      refine x_topi ev33 ?_
      refine x_istore_n C dX12_often_33 34 rfl rfl rfl [(3, .int (v33)), (2, .int (x2)), (4, .long (a.2))] rfl ?_
      refine x_lload C dX12_often_34 36 rfl 2 rfl ?_
      refine x_ldc2 C dX12_often_36 39 rfl w1704 ?_
      refine x_ldiv C dX12_often_39 40 rfl (by decide) ?_
      obtain ⟨v40, ev40, hf⟩ := xlet_some hf
      refine x_topl ev40 ?_
      refine x_lstore C dX12_often_40 42 rfl rfl [(4, .long (v40)), (3, .int (v33)), (2, .int (x2))] rfl ?_
      refine x_goto C dX12_often_42 5 (by decide) ?_
      refine x_lv [2, 1, 0] (lv' := [(2, .int (x2)), (3, .int (v33)), (4, .long (v40))]) rfl ?_
      exact hK _ (Option.some.inj hf).symm
    · have hf := (if_pos hc).symm.trans hf
      refine x_iconst C dX12_often_27 28 rfl 1 (by decide) ?_
      refine x_goto C dX12_often_28 32 (by decide) ?_
      refine x_iadd C dX12_often_32 33 rfl ?_
      obtain ⟨v33, ev33, hf⟩ := xlet_some hf
      refine x_topi ev33 ?_
      refine x_istore_n C dX12_often_33 34 rfl rfl rfl [(3, .int (v33)), (2, .int (x2)), (4, .long (a.2))] rfl ?_
      refine x_lload C dX12_often_34 36 rfl 2 rfl ?_
      refine x_ldc2 C dX12_often_36 39 rfl w1704 ?_
      refine x_ldiv C dX12_often_39 40 rfl (by decide) ?_
      obtain ⟨v40, ev40, hf⟩ := xlet_some hf
      refine x_topl ev40 ?_
      refine x_lstore C dX12_often_40 42 rfl rfl [(4, .long (v40)), (3, .int (v33)), (2, .int (x2))] rfl ?_
      refine x_goto C dX12_often_42 5 (by decide) ?_
      refine x_lv [2, 1, 0] (lv' := [(2, .int (x2)), (3, .int (v33)), (4, .long (v40))]) rfl ?_
      exact hK _ (Option.some.inj hf).symm
noncomputable def fX12_often (x0 : Int64) (x2 : Int32) : Option (Int32) :=
(iterP (fLX12_often_5 x2) (0, x0)).bind fun b5 =>
some b5
set_option maxHeartbeats 4000000 in
set_option maxRecDepth 100000 in
theorem cX12_oftenc {l : Launch} {G : xG} {A : Nat → Prop} {σ : St} {x0 : Int64} {x2 : Int32} {c : Int32} (hf : fX12_often x0 x2 = some c) : Con l yX12_often (xws yX12_often cX12_often 6 (some .int)) rmX12_often [.long (x0), .int (x2)] G A σ (some (.int c)) σ := by
  refine x_start rfl (Nat.le_of_ble_eq_true rfl) (fun X _ _ _ C hE0 => ?_)
  have hE : ∀ r, c = r → xE1 X (some (.int r)) σ := fun r e => e ▸ hE0
  show V X (0, 0) σ 0 [(0, .long (x0)), (2, .int (x2))] []
  unfold fX12_often at hf
  refine x_iconst C dX12_often_0 1 rfl 0 (by decide) ?_
  refine x_istore_n C dX12_often_1 2 rfl rfl rfl [(3, .int (0)), (0, .long (x0)), (2, .int (x2))] rfl ?_
  refine x_lload_n C dX12_often_2 3 rfl 1 rfl rfl ?_
  refine x_lstore C dX12_often_3 5 rfl rfl [(4, .long (x0)), (3, .int (0)), (0, .long (x0)), (2, .int (x2))] rfl ?_
  obtain ⟨b5, hb5, hf⟩ := x_bind hf
  refine x_lv [3, 1, 0] (lv' := [(2, .int (x2)), (3, .int (0)), (4, .long (x0))]) rfl ?_
  refine lpX12_often_5 C hb5 (fun s5 e5 => ?_)
  subst e5
  refine x_iload_n C dX12_often_45 46 rfl 0 rfl rfl ?_
  exact x_iret C (hE _ (Option.some.inj hf).symm) dX12_often_46
theorem dX12_constant_0 : decode cX12_constant 0 = .ok (.aload_n 0, 1) := by decide +kernel
theorem dX12_constant_1 : decode cX12_constant 1 = .ok (.iconst 0, 1) := by decide +kernel
theorem dX12_constant_2 : decode cX12_constant 2 = .ok (.putfield 1, 3) := by decide +kernel
theorem dX12_constant_5 : decode cX12_constant 5 = .ok (.iconst 0, 1) := by decide +kernel
theorem dX12_constant_6 : decode cX12_constant 6 = .ok (.istore_n 1, 1) := by decide +kernel
theorem dX12_constant_7 : decode cX12_constant 7 = .ok (.iconst 0, 1) := by decide +kernel
theorem dX12_constant_8 : decode cX12_constant 8 = .ok (.istore_n 2, 1) := by decide +kernel
theorem dX12_constant_9 : decode cX12_constant 9 = .ok (.iload_n 2, 1) := by decide +kernel
theorem dX12_constant_10 : decode cX12_constant 10 = .ok (.aload_n 0, 1) := by decide +kernel
theorem dX12_constant_11 : decode cX12_constant 11 = .ok (.invokevirtual 409, 3) := by decide +kernel
theorem dX12_constant_14 : decode cX12_constant 14 = .ok (.if_icmp .ge 76, 3) := by decide +kernel
theorem dX12_constant_17 : decode cX12_constant 17 = .ok (.iconst 1, 1) := by decide +kernel
theorem dX12_constant_18 : decode cX12_constant 18 = .ok (.istore_n 3, 1) := by decide +kernel
theorem dX12_constant_19 : decode cX12_constant 19 = .ok (.iconst 0, 1) := by decide +kernel
theorem dX12_constant_20 : decode cX12_constant 20 = .ok (.istore 4, 2) := by decide +kernel
theorem dX12_constant_22 : decode cX12_constant 22 = .ok (.iload 4, 2) := by decide +kernel
theorem dX12_constant_24 : decode cX12_constant 24 = .ok (.aload_n 0, 1) := by decide +kernel
theorem dX12_constant_25 : decode cX12_constant 25 = .ok (.invokevirtual 273, 3) := by decide +kernel
theorem dX12_constant_28 : decode cX12_constant 28 = .ok (.if_icmp .ge 42, 3) := by decide +kernel
theorem dX12_constant_31 : decode cX12_constant 31 = .ok (.iload_n 3, 1) := by decide +kernel
theorem dX12_constant_32 : decode cX12_constant 32 = .ok (.ifCond .eq 30, 3) := by decide +kernel
theorem dX12_constant_35 : decode cX12_constant 35 = .ok (.aload_n 0, 1) := by decide +kernel
theorem dX12_constant_36 : decode cX12_constant 36 = .ok (.iload 4, 2) := by decide +kernel
theorem dX12_constant_38 : decode cX12_constant 38 = .ok (.invokevirtual 285, 3) := by decide +kernel
theorem dX12_constant_41 : decode cX12_constant 41 = .ok (.iload_n 2, 1) := by decide +kernel
theorem dX12_constant_42 : decode cX12_constant 42 = .ok (.invokestatic 411, 3) := by decide +kernel
theorem dX12_constant_45 : decode cX12_constant 45 = .ok (.aload_n 0, 1) := by decide +kernel
theorem dX12_constant_46 : decode cX12_constant 46 = .ok (.iload 4, 2) := by decide +kernel
theorem dX12_constant_48 : decode cX12_constant 48 = .ok (.invokevirtual 288, 3) := by decide +kernel
theorem dX12_constant_51 : decode cX12_constant 51 = .ok (.iload_n 2, 1) := by decide +kernel
theorem dX12_constant_52 : decode cX12_constant 52 = .ok (.invokestatic 411, 3) := by decide +kernel
theorem dX12_constant_55 : decode cX12_constant 55 = .ok (.if_icmp .ne 7, 3) := by decide +kernel
theorem dX12_constant_58 : decode cX12_constant 58 = .ok (.iconst 1, 1) := by decide +kernel
theorem dX12_constant_59 : decode cX12_constant 59 = .ok (.goto 4, 3) := by decide +kernel
theorem dX12_constant_62 : decode cX12_constant 62 = .ok (.iconst 0, 1) := by decide +kernel
theorem dX12_constant_63 : decode cX12_constant 63 = .ok (.istore_n 3, 1) := by decide +kernel
theorem dX12_constant_64 : decode cX12_constant 64 = .ok (.iinc 4 1, 3) := by decide +kernel
theorem dX12_constant_67 : decode cX12_constant 67 = .ok (.goto (-45), 3) := by decide +kernel
theorem dX12_constant_70 : decode cX12_constant 70 = .ok (.iload_n 1, 1) := by decide +kernel
theorem dX12_constant_71 : decode cX12_constant 71 = .ok (.iload_n 3, 1) := by decide +kernel
theorem dX12_constant_72 : decode cX12_constant 72 = .ok (.ifCond .eq 9, 3) := by decide +kernel
theorem dX12_constant_75 : decode cX12_constant 75 = .ok (.iconst 1, 1) := by decide +kernel
theorem dX12_constant_76 : decode cX12_constant 76 = .ok (.iload_n 2, 1) := by decide +kernel
theorem dX12_constant_77 : decode cX12_constant 77 = .ok (.ishl, 1) := by decide +kernel
theorem dX12_constant_78 : decode cX12_constant 78 = .ok (.goto 4, 3) := by decide +kernel
theorem dX12_constant_81 : decode cX12_constant 81 = .ok (.iconst 0, 1) := by decide +kernel
theorem dX12_constant_82 : decode cX12_constant 82 = .ok (.ior, 1) := by decide +kernel
theorem dX12_constant_83 : decode cX12_constant 83 = .ok (.istore_n 1, 1) := by decide +kernel
theorem dX12_constant_84 : decode cX12_constant 84 = .ok (.iinc 2 1, 3) := by decide +kernel
theorem dX12_constant_87 : decode cX12_constant 87 = .ok (.goto (-78), 3) := by decide +kernel
theorem dX12_constant_90 : decode cX12_constant 90 = .ok (.iload_n 1, 1) := by decide +kernel
theorem dX12_constant_91 : decode cX12_constant 91 = .ok (.ireturn, 1) := by decide +kernel
abbrev rmX12_constant : Room := { frames := 1, cells := 0, slots := 0, locals := 25 }
noncomputable def fLX12_constant_22 (σ : St) (x0 : Nat) (x1 : Int32) (x2 : Int32) (a : Int32 × Int32) : Option ((Int32 × Int32) ⊕ (Int32)) :=
(isO σ x0 11).bind fun _ =>
(fX12_rules σ x0).bind fun w25 =>
if w25 ≤ a.2 then
(some (Sum.inr a.1))
else
(if a.1 = 0 then
(xlet (a.2 + 1) fun v64 =>
some (Sum.inl (0, v64)))
else
((isO σ x0 11).bind fun _ =>
(fX12_leftOf σ x0 a.2).bind fun w38 =>
(fX12_often w38 x2).bind fun w42 =>
(isO σ x0 11).bind fun _ =>
(fX12_rightOf σ x0 a.2).bind fun w48 =>
(fX12_often w48 x2).bind fun w52 =>
if w42 = w52 then
(xlet (a.2 + 1) fun v64 =>
some (Sum.inl (1, v64)))
else
(xlet (a.2 + 1) fun v64 =>
some (Sum.inl (0, v64)))))
set_option maxHeartbeats 4000000 in
set_option maxRecDepth 100000 in
theorem lpX12_constant_22 {X : xX} {σ : St} {x0 : Nat} {x1 : Int32} {x2 : Int32}  {a0 : Int32 × Int32} {b : Int32} (C : Ok X cX12_constant 5 RX12 rmX12_constant (some .int)) (hb : iterP (fLX12_constant_22 σ x0 x1 x2) a0 = some b) (hy0 : ∀ s, b = s → V X (0, 0) σ 70 [(0, .ref (x0)), (1, .int (x1)), (2, .int (x2)), (3, .int (s))] []) : V X (0, 0) σ 22 [(0, .ref (x0)), (1, .int (x1)), (2, .int (x2)), (3, .int (a0.1)), (4, .int (a0.2))] [] := by
  obtain ⟨n, hn⟩ := iterP_some hb
  refine x_loop (P := fun a => V X (0, 0) σ 22 [(0, .ref (x0)), (1, .int (x1)), (2, .int (x2)), (3, .int (a.1)), (4, .int (a.2))] []) ?_ n a0 hn
  intro a c hf hK hxx
  have hx0 : ∀ s, c = Sum.inr s → V X (0, 0) σ 70 [(0, .ref (x0)), (1, .int (x1)), (2, .int (x2)), (3, .int (s))] [] := fun s e => hy0 s (hxx _ e).symm
  unfold fLX12_constant_22 at hf
  refine x_iload C dX12_constant_22 24 rfl 4 rfl ?_
  refine x_aload_n C dX12_constant_24 25 rfl 0 rfl rfl ?_
  obtain ⟨o25, ho25, hf⟩ := x_bind hf
  obtain ⟨w25, hw25, hf⟩ := x_bind hf
  refine x_callVi C dX12_constant_25 28 rfl ho25 cl11.1 rfl (cX12_rulesc hw25) kX12_rules kvX12_rules w1735 ⟨rfl, rfl⟩ ⟨Nat.le_of_ble_eq_true rfl, Nat.le_of_ble_eq_true rfl⟩ ⟨Nat.zero_le _, Nat.zero_le _⟩ rfl rfl (Nat.le_of_ble_eq_true rfl) ?_
  refine x_icmp_ge C dX12_constant_28 70 (by decide) 31 rfl (fun hc => ?_) (fun hc => ?_)
  · have hf := (if_pos hc).symm.trans hf
    refine x_lv [0, 1, 2, 3] (lv' := [(0, .ref (x0)), (1, .int (x1)), (2, .int (x2)), (3, .int (a.1))]) rfl ?_
    exact hx0 _ (Option.some.inj hf).symm
  · have hf := (if_neg hc).symm.trans hf
    refine x_iload_n C dX12_constant_31 32 rfl 3 rfl rfl ?_
    refine x_if_eq C dX12_constant_32 62 (by decide) 35 rfl (fun hc => ?_) (fun hc => ?_)
    · have hf := (if_pos hc).symm.trans hf
      refine x_iconst C dX12_constant_62 63 rfl 0 (by decide) ?_
      refine x_istore_n C dX12_constant_63 64 rfl rfl rfl [(3, .int (0)), (0, .ref (x0)), (1, .int (x1)), (2, .int (x2)), (4, .int (a.2))] rfl ?_
      obtain ⟨v64, ev64, hf⟩ := xlet_some hf
      refine x_iinc C dX12_constant_64 67 rfl 4 rfl v64 ev64 rfl [(4, .int (v64)), (3, .int (0)), (0, .ref (x0)), (1, .int (x1)), (2, .int (x2))] rfl ?_
      refine x_goto C dX12_constant_67 22 (by decide) ?_
      refine x_lv [2, 3, 4, 1, 0] (lv' := [(0, .ref (x0)), (1, .int (x1)), (2, .int (x2)), (3, .int (0)), (4, .int (v64))]) rfl ?_
      exact hK _ (Option.some.inj hf).symm
    · have hf := (if_neg hc).symm.trans hf
      refine x_aload_n C dX12_constant_35 36 rfl 0 rfl rfl ?_
      refine x_iload C dX12_constant_36 38 rfl 4 rfl ?_
      obtain ⟨o38, ho38, hf⟩ := x_bind hf
      obtain ⟨w38, hw38, hf⟩ := x_bind hf
      refine x_callVl C dX12_constant_38 41 rfl ho38 cl11.1 rfl (cX12_leftOfc hw38) kX12_leftOf kvX12_leftOf w1752 ⟨rfl, rfl⟩ ⟨Nat.le_of_ble_eq_true rfl, Nat.le_of_ble_eq_true rfl⟩ ⟨Nat.zero_le _, Nat.zero_le _⟩ rfl rfl (Nat.le_of_ble_eq_true rfl) ?_
      refine x_iload_n C dX12_constant_41 42 rfl 2 rfl rfl ?_
      obtain ⟨w42, hw42, hf⟩ := x_bind hf
      refine x_callSi C dX12_constant_42 45 rfl (cX12_oftenc hw42) kX12_often ksX12_often w1864 ⟨rfl, rfl⟩ ⟨Nat.le_of_ble_eq_true rfl, Nat.le_of_ble_eq_true rfl⟩ ⟨Nat.zero_le _, Nat.zero_le _⟩ rfl rfl (Nat.le_of_ble_eq_true rfl) ?_
      refine x_aload_n C dX12_constant_45 46 rfl 0 rfl rfl ?_
      refine x_iload C dX12_constant_46 48 rfl 4 rfl ?_
      obtain ⟨o48, ho48, hf⟩ := x_bind hf
      obtain ⟨w48, hw48, hf⟩ := x_bind hf
      refine x_callVl C dX12_constant_48 51 rfl ho48 cl11.1 rfl (cX12_rightOfc hw48) kX12_rightOf kvX12_rightOf w1756 ⟨rfl, rfl⟩ ⟨Nat.le_of_ble_eq_true rfl, Nat.le_of_ble_eq_true rfl⟩ ⟨Nat.zero_le _, Nat.zero_le _⟩ rfl rfl (Nat.le_of_ble_eq_true rfl) ?_
      refine x_iload_n C dX12_constant_51 52 rfl 2 rfl rfl ?_
      obtain ⟨w52, hw52, hf⟩ := x_bind hf
      refine x_callSi C dX12_constant_52 55 rfl (cX12_oftenc hw52) kX12_often ksX12_often w1864 ⟨rfl, rfl⟩ ⟨Nat.le_of_ble_eq_true rfl, Nat.le_of_ble_eq_true rfl⟩ ⟨Nat.zero_le _, Nat.zero_le _⟩ rfl rfl (Nat.le_of_ble_eq_true rfl) ?_
      refine x_icmp_ne C dX12_constant_55 62 (by decide) 58 rfl (fun hc => ?_) (fun hc => ?_)
      · have hf := (if_neg hc).symm.trans hf
        refine x_iconst C dX12_constant_62 63 rfl 0 (by decide) ?_
        refine x_istore_n C dX12_constant_63 64 rfl rfl rfl [(3, .int (0)), (0, .ref (x0)), (1, .int (x1)), (2, .int (x2)), (4, .int (a.2))] rfl ?_
        obtain ⟨v64, ev64, hf⟩ := xlet_some hf
        refine x_iinc C dX12_constant_64 67 rfl 4 rfl v64 ev64 rfl [(4, .int (v64)), (3, .int (0)), (0, .ref (x0)), (1, .int (x1)), (2, .int (x2))] rfl ?_
        refine x_goto C dX12_constant_67 22 (by decide) ?_
        refine x_lv [2, 3, 4, 1, 0] (lv' := [(0, .ref (x0)), (1, .int (x1)), (2, .int (x2)), (3, .int (0)), (4, .int (v64))]) rfl ?_
        exact hK _ (Option.some.inj hf).symm
      · have hf := (if_pos hc).symm.trans hf
        refine x_iconst C dX12_constant_58 59 rfl 1 (by decide) ?_
        refine x_goto C dX12_constant_59 63 (by decide) ?_
        refine x_istore_n C dX12_constant_63 64 rfl rfl rfl [(3, .int (1)), (0, .ref (x0)), (1, .int (x1)), (2, .int (x2)), (4, .int (a.2))] rfl ?_
        obtain ⟨v64, ev64, hf⟩ := xlet_some hf
        refine x_iinc C dX12_constant_64 67 rfl 4 rfl v64 ev64 rfl [(4, .int (v64)), (3, .int (1)), (0, .ref (x0)), (1, .int (x1)), (2, .int (x2))] rfl ?_
        refine x_goto C dX12_constant_67 22 (by decide) ?_
        refine x_lv [2, 3, 4, 1, 0] (lv' := [(0, .ref (x0)), (1, .int (x1)), (2, .int (x2)), (3, .int (1)), (4, .int (v64))]) rfl ?_
        exact hK _ (Option.some.inj hf).symm
noncomputable def fLX12_constant_9 (σ : St) (x0 : Nat) (a : Int32 × Int32) : Option ((Int32 × Int32) ⊕ (Int32)) :=
(isO σ x0 11).bind fun _ =>
(fX12_letters σ x0).bind fun w11 =>
if w11 ≤ a.2 then
(some (Sum.inr a.1))
else
((iterP (fLX12_constant_22 σ x0 a.1 a.2) (1, 0)).bind fun b22 =>
if b22 = 0 then
(xlet (a.1 ||| 0) fun v83 =>
xlet (a.2 + 1) fun v84 =>
some (Sum.inl (v83, v84)))
else
(xlet (a.1 ||| (1 <<< (a.2 &&& 31))) fun v83 =>
xlet (a.2 + 1) fun v84 =>
some (Sum.inl (v83, v84))))
set_option maxHeartbeats 4000000 in
set_option maxRecDepth 100000 in
theorem lpX12_constant_9 {X : xX} {σ : St} {x0 : Nat}  {a0 : Int32 × Int32} {b : Int32} (C : Ok X cX12_constant 5 RX12 rmX12_constant (some .int)) (hb : iterP (fLX12_constant_9 σ x0) a0 = some b) (hy0 : ∀ s, b = s → V X (0, 0) σ 90 [(1, .int (s))] []) : V X (0, 0) σ 9 [(0, .ref (x0)), (1, .int (a0.1)), (2, .int (a0.2))] [] := by
  obtain ⟨n, hn⟩ := iterP_some hb
  refine x_loop (P := fun a => V X (0, 0) σ 9 [(0, .ref (x0)), (1, .int (a.1)), (2, .int (a.2))] []) ?_ n a0 hn
  intro a c hf hK hxx
  have hx0 : ∀ s, c = Sum.inr s → V X (0, 0) σ 90 [(1, .int (s))] [] := fun s e => hy0 s (hxx _ e).symm
  unfold fLX12_constant_9 at hf
  refine x_iload_n C dX12_constant_9 10 rfl 2 rfl rfl ?_
  refine x_aload_n C dX12_constant_10 11 rfl 0 rfl rfl ?_
  obtain ⟨o11, ho11, hf⟩ := x_bind hf
  obtain ⟨w11, hw11, hf⟩ := x_bind hf
  refine x_callVi C dX12_constant_11 14 rfl ho11 cl11.1 rfl (cX12_lettersc hw11) kX12_letters kvX12_letters w1860 ⟨rfl, rfl⟩ ⟨Nat.le_of_ble_eq_true rfl, Nat.le_of_ble_eq_true rfl⟩ ⟨Nat.zero_le _, Nat.zero_le _⟩ rfl rfl (Nat.le_of_ble_eq_true rfl) ?_
  refine x_icmp_ge C dX12_constant_14 90 (by decide) 17 rfl (fun hc => ?_) (fun hc => ?_)
  · have hf := (if_pos hc).symm.trans hf
    refine x_lv [1] (lv' := [(1, .int (a.1))]) rfl ?_
    exact hx0 _ (Option.some.inj hf).symm
  · have hf := (if_neg hc).symm.trans hf
    refine x_iconst C dX12_constant_17 18 rfl 1 (by decide) ?_
    refine x_istore_n C dX12_constant_18 19 rfl rfl rfl [(3, .int (1)), (0, .ref (x0)), (1, .int (a.1)), (2, .int (a.2))] rfl ?_
    refine x_iconst C dX12_constant_19 20 rfl 0 (by decide) ?_
    refine x_istore C dX12_constant_20 22 rfl rfl [(4, .int (0)), (3, .int (1)), (0, .ref (x0)), (1, .int (a.1)), (2, .int (a.2))] rfl ?_
    obtain ⟨b22, hb22, hf⟩ := x_bind hf
    refine x_lv [2, 3, 4, 1, 0] (lv' := [(0, .ref (x0)), (1, .int (a.1)), (2, .int (a.2)), (3, .int (1)), (4, .int (0))]) rfl ?_
    refine lpX12_constant_22 C hb22 (fun s22 e22 => ?_)
    subst e22
    refine x_iload_n C dX12_constant_70 71 rfl 1 rfl rfl ?_
    refine x_iload_n C dX12_constant_71 72 rfl 3 rfl rfl ?_
    refine x_if_eq C dX12_constant_72 81 (by decide) 75 rfl (fun hc => ?_) (fun hc => ?_)
    · have hf := (if_pos hc).symm.trans hf
      refine x_iconst C dX12_constant_81 82 rfl 0 (by decide) ?_
      refine x_ior C dX12_constant_82 83 rfl ?_
      obtain ⟨v83, ev83, hf⟩ := xlet_some hf
      refine x_topi ev83 ?_
      refine x_istore_n C dX12_constant_83 84 rfl rfl rfl [(1, .int (v83)), (0, .ref (x0)), (2, .int (a.2)), (3, .int (b22))] rfl ?_
      obtain ⟨v84, ev84, hf⟩ := xlet_some hf
      refine x_iinc C dX12_constant_84 87 rfl 2 rfl v84 ev84 rfl [(2, .int (v84)), (1, .int (v83)), (0, .ref (x0)), (3, .int (b22))] rfl ?_
      refine x_goto C dX12_constant_87 9 (by decide) ?_
      refine x_lv [2, 1, 0] (lv' := [(0, .ref (x0)), (1, .int (v83)), (2, .int (v84))]) rfl ?_
      exact hK _ (Option.some.inj hf).symm
    · have hf := (if_neg hc).symm.trans hf
      refine x_iconst C dX12_constant_75 76 rfl 1 (by decide) ?_
      refine x_iload_n C dX12_constant_76 77 rfl 2 rfl rfl ?_
      refine x_ishl C dX12_constant_77 78 rfl ?_
      refine x_goto C dX12_constant_78 82 (by decide) ?_
      refine x_ior C dX12_constant_82 83 rfl ?_
      obtain ⟨v83, ev83, hf⟩ := xlet_some hf
      refine x_topi ev83 ?_
      refine x_istore_n C dX12_constant_83 84 rfl rfl rfl [(1, .int (v83)), (0, .ref (x0)), (2, .int (a.2)), (3, .int (b22))] rfl ?_
      obtain ⟨v84, ev84, hf⟩ := xlet_some hf
      refine x_iinc C dX12_constant_84 87 rfl 2 rfl v84 ev84 rfl [(2, .int (v84)), (1, .int (v83)), (0, .ref (x0)), (3, .int (b22))] rfl ?_
      refine x_goto C dX12_constant_87 9 (by decide) ?_
      refine x_lv [2, 1, 0] (lv' := [(0, .ref (x0)), (1, .int (v83)), (2, .int (v84))]) rfl ?_
      exact hK _ (Option.some.inj hf).symm
noncomputable def fX12_constant (σ : St) (x0 : Nat) : Option ((Int32 × St)) :=
(wrF σ x0 11 0 (.int (0))).bind fun σ2 =>
(iterP (fLX12_constant_9 σ2 x0) (0, 0)).bind fun b9 =>
some (b9, σ2)
set_option maxHeartbeats 4000000 in
set_option maxRecDepth 100000 in
theorem cX12_constantc {l : Launch} {G : xG} {A : Nat → Prop} {σ : St} {x0 : Nat} {c : (Int32 × St)} (hf : fX12_constant σ x0 = some c) : Con l yX12_constant (xws yX12_constant cX12_constant 5 (some .int)) rmX12_constant [.ref (x0)] G A σ (some (.int c.1)) c.2 := by
  refine x_start rfl (Nat.le_of_ble_eq_true rfl) (fun X _ _ _ C hE0 => ?_)
  have hE : ∀ r, c = r → xE1 X (some (.int r.1)) r.2 := fun r e => e ▸ hE0
  show V X (0, 0) σ 0 [(0, .ref (x0))] []
  unfold fX12_constant at hf
  refine x_aload_n C dX12_constant_0 1 rfl 0 rfl rfl ?_
  refine x_iconst C dX12_constant_1 2 rfl 0 (by decide) ?_
  obtain ⟨σ2, hσ2, hf⟩ := x_bind hf
  refine x_putX C dX12_constant_2 5 rfl hσ2 cl11 rfl w1443 rfl rfl rfl ?_
  refine x_iconst C dX12_constant_5 6 rfl 0 (by decide) ?_
  refine x_istore_n C dX12_constant_6 7 rfl rfl rfl [(1, .int (0)), (0, .ref (x0))] rfl ?_
  refine x_iconst C dX12_constant_7 8 rfl 0 (by decide) ?_
  refine x_istore_n C dX12_constant_8 9 rfl rfl rfl [(2, .int (0)), (1, .int (0)), (0, .ref (x0))] rfl ?_
  obtain ⟨b9, hb9, hf⟩ := x_bind hf
  refine x_lv [2, 1, 0] (lv' := [(0, .ref (x0)), (1, .int (0)), (2, .int (0))]) rfl ?_
  refine lpX12_constant_9 C hb9 (fun s9 e9 => ?_)
  subst e9
  refine x_iload_n C dX12_constant_90 91 rfl 0 rfl rfl ?_
  exact x_iret C (hE _ (Option.some.inj hf).symm) dX12_constant_91
theorem dX12_falling_0 : decode cX12_falling 0 = .ok (.iconst 0, 1) := by decide +kernel
theorem dX12_falling_1 : decode cX12_falling 1 = .ok (.istore_n 1, 1) := by decide +kernel
theorem dX12_falling_2 : decode cX12_falling 2 = .ok (.iconst 0, 1) := by decide +kernel
theorem dX12_falling_3 : decode cX12_falling 3 = .ok (.istore_n 2, 1) := by decide +kernel
theorem dX12_falling_4 : decode cX12_falling 4 = .ok (.iload_n 2, 1) := by decide +kernel
theorem dX12_falling_5 : decode cX12_falling 5 = .ok (.aload_n 0, 1) := by decide +kernel
theorem dX12_falling_6 : decode cX12_falling 6 = .ok (.invokevirtual 273, 3) := by decide +kernel
theorem dX12_falling_9 : decode cX12_falling 9 = .ok (.if_icmp .ge 25, 3) := by decide +kernel
theorem dX12_falling_12 : decode cX12_falling 12 = .ok (.iload_n 1, 1) := by decide +kernel
theorem dX12_falling_13 : decode cX12_falling 13 = .ok (.aload_n 0, 1) := by decide +kernel
theorem dX12_falling_14 : decode cX12_falling 14 = .ok (.iload_n 2, 1) := by decide +kernel
theorem dX12_falling_15 : decode cX12_falling 15 = .ok (.invokevirtual 381, 3) := by decide +kernel
theorem dX12_falling_18 : decode cX12_falling 18 = .ok (.ifCond .eq 7, 3) := by decide +kernel
theorem dX12_falling_21 : decode cX12_falling 21 = .ok (.iconst 1, 1) := by decide +kernel
theorem dX12_falling_22 : decode cX12_falling 22 = .ok (.goto 4, 3) := by decide +kernel
theorem dX12_falling_25 : decode cX12_falling 25 = .ok (.iconst 0, 1) := by decide +kernel
theorem dX12_falling_26 : decode cX12_falling 26 = .ok (.iadd, 1) := by decide +kernel
theorem dX12_falling_27 : decode cX12_falling 27 = .ok (.istore_n 1, 1) := by decide +kernel
theorem dX12_falling_28 : decode cX12_falling 28 = .ok (.iinc 2 1, 3) := by decide +kernel
theorem dX12_falling_31 : decode cX12_falling 31 = .ok (.goto (-27), 3) := by decide +kernel
theorem dX12_falling_34 : decode cX12_falling 34 = .ok (.iload_n 1, 1) := by decide +kernel
theorem dX12_falling_35 : decode cX12_falling 35 = .ok (.ireturn, 1) := by decide +kernel
abbrev rmX12_falling : Room := { frames := 5, cells := 0, slots := 0, locals := 117 }
noncomputable def fLX12_falling_4 (σ : St) (x0 : Nat) (a : Int32 × Int32) : Option ((Int32 × Int32) ⊕ (Int32)) :=
(isO σ x0 11).bind fun _ =>
(fX12_rules σ x0).bind fun w6 =>
if w6 ≤ a.2 then
(some (Sum.inr a.1))
else
((isO σ x0 11).bind fun _ =>
(fX12_doesFall σ x0 a.2).bind fun w15 =>
if w15 = 0 then
(xlet (a.1 + 0) fun v27 =>
xlet (a.2 + 1) fun v28 =>
some (Sum.inl (v27, v28)))
else
(xlet (a.1 + 1) fun v27 =>
xlet (a.2 + 1) fun v28 =>
some (Sum.inl (v27, v28))))
set_option maxHeartbeats 4000000 in
set_option maxRecDepth 100000 in
theorem lpX12_falling_4 {X : xX} {σ : St} {x0 : Nat}  {a0 : Int32 × Int32} {b : Int32} (C : Ok X cX12_falling 3 RX12 rmX12_falling (some .int)) (hb : iterP (fLX12_falling_4 σ x0) a0 = some b) (hy0 : ∀ s, b = s → V X (0, 0) σ 34 [(1, .int (s))] []) : V X (0, 0) σ 4 [(0, .ref (x0)), (1, .int (a0.1)), (2, .int (a0.2))] [] := by
  obtain ⟨n, hn⟩ := iterP_some hb
  refine x_loop (P := fun a => V X (0, 0) σ 4 [(0, .ref (x0)), (1, .int (a.1)), (2, .int (a.2))] []) ?_ n a0 hn
  intro a c hf hK hxx
  have hx0 : ∀ s, c = Sum.inr s → V X (0, 0) σ 34 [(1, .int (s))] [] := fun s e => hy0 s (hxx _ e).symm
  unfold fLX12_falling_4 at hf
  refine x_iload_n C dX12_falling_4 5 rfl 2 rfl rfl ?_
  refine x_aload_n C dX12_falling_5 6 rfl 0 rfl rfl ?_
  obtain ⟨o6, ho6, hf⟩ := x_bind hf
  obtain ⟨w6, hw6, hf⟩ := x_bind hf
  refine x_callVi C dX12_falling_6 9 rfl ho6 cl11.1 rfl (cX12_rulesc hw6) kX12_rules kvX12_rules w1735 ⟨rfl, rfl⟩ ⟨Nat.le_of_ble_eq_true rfl, Nat.le_of_ble_eq_true rfl⟩ ⟨Nat.zero_le _, Nat.zero_le _⟩ rfl rfl (Nat.le_of_ble_eq_true rfl) ?_
  refine x_icmp_ge C dX12_falling_9 34 (by decide) 12 rfl (fun hc => ?_) (fun hc => ?_)
  · have hf := (if_pos hc).symm.trans hf
    refine x_lv [1] (lv' := [(1, .int (a.1))]) rfl ?_
    exact hx0 _ (Option.some.inj hf).symm
  · have hf := (if_neg hc).symm.trans hf
    refine x_iload_n C dX12_falling_12 13 rfl 1 rfl rfl ?_
    refine x_aload_n C dX12_falling_13 14 rfl 0 rfl rfl ?_
    refine x_iload_n C dX12_falling_14 15 rfl 2 rfl rfl ?_
    obtain ⟨o15, ho15, hf⟩ := x_bind hf
    obtain ⟨w15, hw15, hf⟩ := x_bind hf
    refine x_callVi C dX12_falling_15 18 rfl ho15 cl11.1 rfl (cX12_doesFallc hw15) kX12_doesFall kvX12_doesFall w1748 ⟨rfl, rfl⟩ ⟨Nat.le_of_ble_eq_true rfl, Nat.le_of_ble_eq_true rfl⟩ ⟨Nat.zero_le _, Nat.zero_le _⟩ rfl rfl (Nat.le_of_ble_eq_true rfl) ?_
    refine x_if_eq C dX12_falling_18 25 (by decide) 21 rfl (fun hc => ?_) (fun hc => ?_)
    · have hf := (if_pos hc).symm.trans hf
      refine x_iconst C dX12_falling_25 26 rfl 0 (by decide) ?_
      refine x_iadd C dX12_falling_26 27 rfl ?_
      obtain ⟨v27, ev27, hf⟩ := xlet_some hf
      refine x_topi ev27 ?_
      refine x_istore_n C dX12_falling_27 28 rfl rfl rfl [(1, .int (v27)), (0, .ref (x0)), (2, .int (a.2))] rfl ?_
      obtain ⟨v28, ev28, hf⟩ := xlet_some hf
      refine x_iinc C dX12_falling_28 31 rfl 2 rfl v28 ev28 rfl [(2, .int (v28)), (1, .int (v27)), (0, .ref (x0))] rfl ?_
      refine x_goto C dX12_falling_31 4 (by decide) ?_
      refine x_lv [2, 1, 0] (lv' := [(0, .ref (x0)), (1, .int (v27)), (2, .int (v28))]) rfl ?_
      exact hK _ (Option.some.inj hf).symm
    · have hf := (if_neg hc).symm.trans hf
      refine x_iconst C dX12_falling_21 22 rfl 1 (by decide) ?_
      refine x_goto C dX12_falling_22 26 (by decide) ?_
      refine x_iadd C dX12_falling_26 27 rfl ?_
      obtain ⟨v27, ev27, hf⟩ := xlet_some hf
      refine x_topi ev27 ?_
      refine x_istore_n C dX12_falling_27 28 rfl rfl rfl [(1, .int (v27)), (0, .ref (x0)), (2, .int (a.2))] rfl ?_
      obtain ⟨v28, ev28, hf⟩ := xlet_some hf
      refine x_iinc C dX12_falling_28 31 rfl 2 rfl v28 ev28 rfl [(2, .int (v28)), (1, .int (v27)), (0, .ref (x0))] rfl ?_
      refine x_goto C dX12_falling_31 4 (by decide) ?_
      refine x_lv [2, 1, 0] (lv' := [(0, .ref (x0)), (1, .int (v27)), (2, .int (v28))]) rfl ?_
      exact hK _ (Option.some.inj hf).symm
noncomputable def fX12_falling (σ : St) (x0 : Nat) : Option (Int32) :=
(iterP (fLX12_falling_4 σ x0) (0, 0)).bind fun b4 =>
some b4
set_option maxHeartbeats 4000000 in
set_option maxRecDepth 100000 in
theorem cX12_fallingc {l : Launch} {G : xG} {A : Nat → Prop} {σ : St} {x0 : Nat} {c : Int32} (hf : fX12_falling σ x0 = some c) : Con l yX12_falling (xws yX12_falling cX12_falling 3 (some .int)) rmX12_falling [.ref (x0)] G A σ (some (.int c)) σ := by
  refine x_start rfl (Nat.le_of_ble_eq_true rfl) (fun X _ _ _ C hE0 => ?_)
  have hE : ∀ r, c = r → xE1 X (some (.int r)) σ := fun r e => e ▸ hE0
  show V X (0, 0) σ 0 [(0, .ref (x0))] []
  unfold fX12_falling at hf
  refine x_iconst C dX12_falling_0 1 rfl 0 (by decide) ?_
  refine x_istore_n C dX12_falling_1 2 rfl rfl rfl [(1, .int (0)), (0, .ref (x0))] rfl ?_
  refine x_iconst C dX12_falling_2 3 rfl 0 (by decide) ?_
  refine x_istore_n C dX12_falling_3 4 rfl rfl rfl [(2, .int (0)), (1, .int (0)), (0, .ref (x0))] rfl ?_
  obtain ⟨b4, hb4, hf⟩ := x_bind hf
  refine x_lv [2, 1, 0] (lv' := [(0, .ref (x0)), (1, .int (0)), (2, .int (0))]) rfl ?_
  refine lpX12_falling_4 C hb4 (fun s4 e4 => ?_)
  subst e4
  refine x_iload_n C dX12_falling_34 35 rfl 0 rfl rfl ?_
  exact x_iret C (hE _ (Option.some.inj hf).symm) dX12_falling_35
theorem dX12_overlapMany_0 : decode cX12_overlapMany 0 = .ok (.aload_n 0, 1) := by decide +kernel
theorem dX12_overlapMany_1 : decode cX12_overlapMany 1 = .ok (.iconst (-1), 1) := by decide +kernel
theorem dX12_overlapMany_2 : decode cX12_overlapMany 2 = .ok (.invokevirtual 373, 3) := by decide +kernel
theorem dX12_overlapMany_5 : decode cX12_overlapMany 5 = .ok (.pop, 1) := by decide +kernel
theorem dX12_overlapMany_6 : decode cX12_overlapMany 6 = .ok (.aload_n 0, 1) := by decide +kernel
theorem dX12_overlapMany_7 : decode cX12_overlapMany 7 = .ok (.getfield 344, 3) := by decide +kernel
theorem dX12_overlapMany_10 : decode cX12_overlapMany 10 = .ok (.ireturn, 1) := by decide +kernel
abbrev rmX12_overlapMany : Room := { frames := 6, cells := 0, slots := 0, locals := 158 }
noncomputable def fX12_overlapMany (σ : St) (x0 : Nat) : Option ((Int32 × St)) :=
(isO σ x0 11).bind fun _ =>
(fX12_overlaps σ x0 (-1)).bind fun w2 =>
(gI w2.2 x0 11 32).bind fun v7 =>
some (v7, w2.2)
set_option maxHeartbeats 4000000 in
set_option maxRecDepth 100000 in
theorem cX12_overlapManyc {l : Launch} {G : xG} {A : Nat → Prop} {σ : St} {x0 : Nat} {c : (Int32 × St)} (hf : fX12_overlapMany σ x0 = some c) : Con l yX12_overlapMany (xws yX12_overlapMany cX12_overlapMany 1 (some .int)) rmX12_overlapMany [.ref (x0)] G A σ (some (.int c.1)) c.2 := by
  refine x_start rfl (Nat.le_of_ble_eq_true rfl) (fun X _ _ _ C hE0 => ?_)
  have hE : ∀ r, c = r → xE1 X (some (.int r.1)) r.2 := fun r e => e ▸ hE0
  show V X (0, 0) σ 0 [(0, .ref (x0))] []
  unfold fX12_overlapMany at hf
  refine x_aload_n C dX12_overlapMany_0 1 rfl 0 rfl rfl ?_
  refine x_iconst C dX12_overlapMany_1 2 rfl (-1) (by decide) ?_
  obtain ⟨o2, ho2, hf⟩ := x_bind hf
  obtain ⟨w2, hw2, hf⟩ := x_bind hf
  refine x_callVi C dX12_overlapMany_2 5 rfl ho2 cl11.1 rfl (cX12_overlapsc hw2) kX12_overlaps kvX12_overlaps w1780 ⟨rfl, rfl⟩ ⟨Nat.le_of_ble_eq_true rfl, Nat.le_of_ble_eq_true rfl⟩ ⟨Nat.zero_le _, Nat.zero_le _⟩ rfl rfl (Nat.le_of_ble_eq_true rfl) ?_
  refine x_pop C dX12_overlapMany_5 6 rfl rfl ?_
  refine x_aload_n C dX12_overlapMany_6 7 rfl 0 rfl rfl ?_
  obtain ⟨v7, hv7, hf⟩ := x_bind hf
  refine x_getI C dX12_overlapMany_7 10 rfl hv7 cl11 rfl w1475 ?_
  exact x_iret C (hE _ (Option.some.inj hf).symm) dX12_overlapMany_10
theorem dX12_unclosed_0 : decode cX12_unclosed 0 = .ok (.iconst 0, 1) := by decide +kernel
theorem dX12_unclosed_1 : decode cX12_unclosed 1 = .ok (.istore_n 1, 1) := by decide +kernel
theorem dX12_unclosed_2 : decode cX12_unclosed 2 = .ok (.iconst 0, 1) := by decide +kernel
theorem dX12_unclosed_3 : decode cX12_unclosed 3 = .ok (.istore_n 2, 1) := by decide +kernel
theorem dX12_unclosed_4 : decode cX12_unclosed 4 = .ok (.aload_n 0, 1) := by decide +kernel
theorem dX12_unclosed_5 : decode cX12_unclosed 5 = .ok (.iload_n 2, 1) := by decide +kernel
theorem dX12_unclosed_6 : decode cX12_unclosed 6 = .ok (.invokevirtual 373, 3) := by decide +kernel
theorem dX12_unclosed_9 : decode cX12_unclosed 9 = .ok (.ifCond .eq 24, 3) := by decide +kernel
theorem dX12_unclosed_12 : decode cX12_unclosed 12 = .ok (.iload_n 1, 1) := by decide +kernel
theorem dX12_unclosed_13 : decode cX12_unclosed 13 = .ok (.aload_n 0, 1) := by decide +kernel
theorem dX12_unclosed_14 : decode cX12_unclosed 14 = .ok (.invokevirtual 376, 3) := by decide +kernel
theorem dX12_unclosed_17 : decode cX12_unclosed 17 = .ok (.ifCond .eq 7, 3) := by decide +kernel
theorem dX12_unclosed_20 : decode cX12_unclosed 20 = .ok (.iconst 0, 1) := by decide +kernel
theorem dX12_unclosed_21 : decode cX12_unclosed 21 = .ok (.goto 4, 3) := by decide +kernel
theorem dX12_unclosed_24 : decode cX12_unclosed 24 = .ok (.iconst 1, 1) := by decide +kernel
theorem dX12_unclosed_25 : decode cX12_unclosed 25 = .ok (.iadd, 1) := by decide +kernel
theorem dX12_unclosed_26 : decode cX12_unclosed 26 = .ok (.istore_n 1, 1) := by decide +kernel
theorem dX12_unclosed_27 : decode cX12_unclosed 27 = .ok (.iinc 2 1, 3) := by decide +kernel
theorem dX12_unclosed_30 : decode cX12_unclosed 30 = .ok (.goto (-26), 3) := by decide +kernel
theorem dX12_unclosed_33 : decode cX12_unclosed 33 = .ok (.iload_n 1, 1) := by decide +kernel
theorem dX12_unclosed_34 : decode cX12_unclosed 34 = .ok (.ireturn, 1) := by decide +kernel
abbrev rmX12_unclosed : Room := { frames := 9, cells := 0, slots := 0, locals := 224 }
noncomputable def fLX12_unclosed_4 (x0 : Nat) (a : Int32 × Int32 × St) : Option ((Int32 × Int32 × St) ⊕ (Int32 × St)) :=
(isO a.2.2 x0 11).bind fun _ =>
(fX12_overlaps a.2.2 x0 a.2.1).bind fun w6 =>
if w6.1 = 0 then
(some (Sum.inr (a.1, w6.2)))
else
((isO w6.2 x0 11).bind fun _ =>
(fX12_closes w6.2 x0).bind fun w14 =>
if w14.1 = 0 then
(xlet (a.1 + 1) fun v26 =>
xlet (a.2.1 + 1) fun v27 =>
some (Sum.inl (v26, v27, w14.2)))
else
(xlet (a.1 + 0) fun v26 =>
xlet (a.2.1 + 1) fun v27 =>
some (Sum.inl (v26, v27, w14.2))))
set_option maxHeartbeats 4000000 in
set_option maxRecDepth 100000 in
theorem lpX12_unclosed_4 {X : xX} {x0 : Nat}  {a0 : Int32 × Int32 × St} {b : Int32 × St} (C : Ok X cX12_unclosed 3 RX12 rmX12_unclosed (some .int)) (hb : iterP (fLX12_unclosed_4 x0) a0 = some b) (hy0 : ∀ s, b = s → V X (0, 0) s.2 33 [(1, .int (s.1))] []) : V X (0, 0) a0.2.2 4 [(0, .ref (x0)), (1, .int (a0.1)), (2, .int (a0.2.1))] [] := by
  obtain ⟨n, hn⟩ := iterP_some hb
  refine x_loop (P := fun a => V X (0, 0) a.2.2 4 [(0, .ref (x0)), (1, .int (a.1)), (2, .int (a.2.1))] []) ?_ n a0 hn
  intro a c hf hK hxx
  have hx0 : ∀ s, c = Sum.inr s → V X (0, 0) s.2 33 [(1, .int (s.1))] [] := fun s e => hy0 s (hxx _ e).symm
  unfold fLX12_unclosed_4 at hf
  refine x_aload_n C dX12_unclosed_4 5 rfl 0 rfl rfl ?_
  refine x_iload_n C dX12_unclosed_5 6 rfl 2 rfl rfl ?_
  obtain ⟨o6, ho6, hf⟩ := x_bind hf
  obtain ⟨w6, hw6, hf⟩ := x_bind hf
  refine x_callVi C dX12_unclosed_6 9 rfl ho6 cl11.1 rfl (cX12_overlapsc hw6) kX12_overlaps kvX12_overlaps w1780 ⟨rfl, rfl⟩ ⟨Nat.le_of_ble_eq_true rfl, Nat.le_of_ble_eq_true rfl⟩ ⟨Nat.zero_le _, Nat.zero_le _⟩ rfl rfl (Nat.le_of_ble_eq_true rfl) ?_
  refine x_if_eq C dX12_unclosed_9 33 (by decide) 12 rfl (fun hc => ?_) (fun hc => ?_)
  · have hf := (if_pos hc).symm.trans hf
    refine x_lv [1] (lv' := [(1, .int (a.1))]) rfl ?_
    exact hx0 _ (Option.some.inj hf).symm
  · have hf := (if_neg hc).symm.trans hf
    refine x_iload_n C dX12_unclosed_12 13 rfl 1 rfl rfl ?_
    refine x_aload_n C dX12_unclosed_13 14 rfl 0 rfl rfl ?_
    obtain ⟨o14, ho14, hf⟩ := x_bind hf
    obtain ⟨w14, hw14, hf⟩ := x_bind hf
    refine x_callVi C dX12_unclosed_14 17 rfl ho14 cl11.1 rfl (cX12_closesc hw14) kX12_closes kvX12_closes w1798 ⟨rfl, rfl⟩ ⟨Nat.le_of_ble_eq_true rfl, Nat.le_of_ble_eq_true rfl⟩ ⟨Nat.zero_le _, Nat.zero_le _⟩ rfl rfl (Nat.le_of_ble_eq_true rfl) ?_
    refine x_if_eq C dX12_unclosed_17 24 (by decide) 20 rfl (fun hc => ?_) (fun hc => ?_)
    · have hf := (if_pos hc).symm.trans hf
      refine x_iconst C dX12_unclosed_24 25 rfl 1 (by decide) ?_
      refine x_iadd C dX12_unclosed_25 26 rfl ?_
      obtain ⟨v26, ev26, hf⟩ := xlet_some hf
      refine x_topi ev26 ?_
      refine x_istore_n C dX12_unclosed_26 27 rfl rfl rfl [(1, .int (v26)), (0, .ref (x0)), (2, .int (a.2.1))] rfl ?_
      obtain ⟨v27, ev27, hf⟩ := xlet_some hf
      refine x_iinc C dX12_unclosed_27 30 rfl 2 rfl v27 ev27 rfl [(2, .int (v27)), (1, .int (v26)), (0, .ref (x0))] rfl ?_
      refine x_goto C dX12_unclosed_30 4 (by decide) ?_
      refine x_lv [2, 1, 0] (lv' := [(0, .ref (x0)), (1, .int (v26)), (2, .int (v27))]) rfl ?_
      exact hK _ (Option.some.inj hf).symm
    · have hf := (if_neg hc).symm.trans hf
      refine x_iconst C dX12_unclosed_20 21 rfl 0 (by decide) ?_
      refine x_goto C dX12_unclosed_21 25 (by decide) ?_
      refine x_iadd C dX12_unclosed_25 26 rfl ?_
      obtain ⟨v26, ev26, hf⟩ := xlet_some hf
      refine x_topi ev26 ?_
      refine x_istore_n C dX12_unclosed_26 27 rfl rfl rfl [(1, .int (v26)), (0, .ref (x0)), (2, .int (a.2.1))] rfl ?_
      obtain ⟨v27, ev27, hf⟩ := xlet_some hf
      refine x_iinc C dX12_unclosed_27 30 rfl 2 rfl v27 ev27 rfl [(2, .int (v27)), (1, .int (v26)), (0, .ref (x0))] rfl ?_
      refine x_goto C dX12_unclosed_30 4 (by decide) ?_
      refine x_lv [2, 1, 0] (lv' := [(0, .ref (x0)), (1, .int (v26)), (2, .int (v27))]) rfl ?_
      exact hK _ (Option.some.inj hf).symm
noncomputable def fX12_unclosed (σ : St) (x0 : Nat) : Option ((Int32 × St)) :=
(iterP (fLX12_unclosed_4 x0) (0, 0, σ)).bind fun b4 =>
some (b4.1, b4.2)
set_option maxHeartbeats 4000000 in
set_option maxRecDepth 100000 in
theorem cX12_unclosedc {l : Launch} {G : xG} {A : Nat → Prop} {σ : St} {x0 : Nat} {c : (Int32 × St)} (hf : fX12_unclosed σ x0 = some c) : Con l yX12_unclosed (xws yX12_unclosed cX12_unclosed 3 (some .int)) rmX12_unclosed [.ref (x0)] G A σ (some (.int c.1)) c.2 := by
  refine x_start rfl (Nat.le_of_ble_eq_true rfl) (fun X _ _ _ C hE0 => ?_)
  have hE : ∀ r, c = r → xE1 X (some (.int r.1)) r.2 := fun r e => e ▸ hE0
  show V X (0, 0) σ 0 [(0, .ref (x0))] []
  unfold fX12_unclosed at hf
  refine x_iconst C dX12_unclosed_0 1 rfl 0 (by decide) ?_
  refine x_istore_n C dX12_unclosed_1 2 rfl rfl rfl [(1, .int (0)), (0, .ref (x0))] rfl ?_
  refine x_iconst C dX12_unclosed_2 3 rfl 0 (by decide) ?_
  refine x_istore_n C dX12_unclosed_3 4 rfl rfl rfl [(2, .int (0)), (1, .int (0)), (0, .ref (x0))] rfl ?_
  obtain ⟨b4, hb4, hf⟩ := x_bind hf
  refine x_lv [2, 1, 0] (lv' := [(0, .ref (x0)), (1, .int (0)), (2, .int (0))]) rfl ?_
  refine lpX12_unclosed_4 C hb4 (fun s4 e4 => ?_)
  subst e4
  refine x_iload_n C dX12_unclosed_33 34 rfl 0 rfl rfl ?_
  exact x_iret C (hE _ (Option.some.inj hf).symm) dX12_unclosed_34
theorem dX12_count_0 : decode cX12_count 0 = .ok (.aload_n 0, 1) := by decide +kernel
theorem dX12_count_1 : decode cX12_count 1 = .ok (.iconst 0, 1) := by decide +kernel
theorem dX12_count_2 : decode cX12_count 2 = .ok (.putfield 1, 3) := by decide +kernel
theorem dX12_count_5 : decode cX12_count 5 = .ok (.aload_n 0, 1) := by decide +kernel
theorem dX12_count_6 : decode cX12_count 6 = .ok (.iload_n 1, 1) := by decide +kernel
theorem dX12_count_7 : decode cX12_count 7 = .ok (.i2l, 1) := by decide +kernel
theorem dX12_count_8 : decode cX12_count 8 = .ok (.lconst 0, 1) := by decide +kernel
theorem dX12_count_9 : decode cX12_count 9 = .ok (.ldc2_w 134, 3) := by decide +kernel
theorem dX12_count_12 : decode cX12_count 12 = .ok (.invokestatic 130, 3) := by decide +kernel
theorem dX12_count_15 : decode cX12_count 15 = .ok (.iconst 1, 1) := by decide +kernel
theorem dX12_count_16 : decode cX12_count 16 = .ok (.invokevirtual 265, 3) := by decide +kernel
theorem dX12_count_19 : decode cX12_count 19 = .ok (.ifCond .ne 5, 3) := by decide +kernel
theorem dX12_count_22 : decode cX12_count 22 = .ok (.iconst 0, 1) := by decide +kernel
theorem dX12_count_23 : decode cX12_count 23 = .ok (.ireturn, 1) := by decide +kernel
theorem dX12_count_24 : decode cX12_count 24 = .ok (.iload_n 1, 1) := by decide +kernel
theorem dX12_count_25 : decode cX12_count 25 = .ok (.tableswitch 69 0 5 #[39, 44, 49, 54, 59, 64], 39) := by decide +kernel
theorem dX12_count_64 : decode cX12_count 64 = .ok (.aload_n 0, 1) := by decide +kernel
theorem dX12_count_65 : decode cX12_count 65 = .ok (.invokevirtual 409, 3) := by decide +kernel
theorem dX12_count_68 : decode cX12_count 68 = .ok (.ireturn, 1) := by decide +kernel
theorem dX12_count_69 : decode cX12_count 69 = .ok (.aload_n 0, 1) := by decide +kernel
theorem dX12_count_70 : decode cX12_count 70 = .ok (.invokevirtual 273, 3) := by decide +kernel
theorem dX12_count_73 : decode cX12_count 73 = .ok (.ireturn, 1) := by decide +kernel
theorem dX12_count_74 : decode cX12_count 74 = .ok (.aload_n 0, 1) := by decide +kernel
theorem dX12_count_75 : decode cX12_count 75 = .ok (.getfield 113, 3) := by decide +kernel
theorem dX12_count_78 : decode cX12_count 78 = .ok (.ireturn, 1) := by decide +kernel
theorem dX12_count_79 : decode cX12_count 79 = .ok (.aload_n 0, 1) := by decide +kernel
theorem dX12_count_80 : decode cX12_count 80 = .ok (.getfield 168, 3) := by decide +kernel
theorem dX12_count_83 : decode cX12_count 83 = .ok (.ireturn, 1) := by decide +kernel
theorem dX12_count_84 : decode cX12_count 84 = .ok (.aload_n 0, 1) := by decide +kernel
theorem dX12_count_85 : decode cX12_count 85 = .ok (.invokevirtual 414, 3) := by decide +kernel
theorem dX12_count_88 : decode cX12_count 88 = .ok (.ireturn, 1) := by decide +kernel
theorem dX12_count_89 : decode cX12_count 89 = .ok (.aload_n 0, 1) := by decide +kernel
theorem dX12_count_90 : decode cX12_count 90 = .ok (.invokevirtual 417, 3) := by decide +kernel
theorem dX12_count_93 : decode cX12_count 93 = .ok (.ireturn, 1) := by decide +kernel
theorem dX12_count_94 : decode cX12_count 94 = .ok (.aload_n 0, 1) := by decide +kernel
theorem dX12_count_95 : decode cX12_count 95 = .ok (.invokevirtual 393, 3) := by decide +kernel
theorem dX12_count_98 : decode cX12_count 98 = .ok (.ireturn, 1) := by decide +kernel
abbrev rmX12_count : Room := { frames := 10, cells := 0, slots := 0, locals := 246 }
noncomputable def fX12_count (σ : St) (x0 : Nat) (x1 : Int32) : Option ((Int32 × St)) :=
(wrF σ x0 11 0 (.int (0))).bind fun σ2 =>
(fX12_isIn x1.toInt64 0 6).bind fun w12 =>
(isO σ2 x0 11).bind fun _ =>
(fX12_right σ2 x0 w12 1).bind fun w16 =>
if w16.1 = 0 then
(some (0, w16.2))
else
(if x1.toInt < 0 ∨ 5 < x1.toInt then
((isO w16.2 x0 11).bind fun _ =>
(fX12_falling w16.2 x0).bind fun w95 =>
some (w95, w16.2))
else
(if x1 = 0 then
((isO w16.2 x0 11).bind fun _ =>
(fX12_letters w16.2 x0).bind fun w65 =>
some (w65, w16.2))
else
(if x1 = 1 then
((isO w16.2 x0 11).bind fun _ =>
(fX12_rules w16.2 x0).bind fun w70 =>
some (w70, w16.2))
else
(if x1 = 2 then
((gI w16.2 x0 11 5).bind fun v75 =>
some (v75, w16.2))
else
(if x1 = 3 then
((gI w16.2 x0 11 7).bind fun v80 =>
some (v80, w16.2))
else
(if x1 = 4 then
((isO w16.2 x0 11).bind fun _ =>
(fX12_overlapMany w16.2 x0).bind fun w85 =>
some (w85.1, w85.2))
else
(if x1 = 5 then
((isO w16.2 x0 11).bind fun _ =>
(fX12_unclosed w16.2 x0).bind fun w90 =>
some (w90.1, w90.2))
else
none)))))))
set_option maxHeartbeats 4000000 in
set_option maxRecDepth 100000 in
theorem cX12_countc {l : Launch} {G : xG} {A : Nat → Prop} {σ : St} {x0 : Nat} {x1 : Int32} {c : (Int32 × St)} (hf : fX12_count σ x0 x1 = some c) : Con l yX12_count (xws yX12_count cX12_count 2 (some .int)) rmX12_count [.ref (x0), .int (x1)] G A σ (some (.int c.1)) c.2 := by
  refine x_start rfl (Nat.le_of_ble_eq_true rfl) (fun X _ _ _ C hE0 => ?_)
  have hE : ∀ r, c = r → xE1 X (some (.int r.1)) r.2 := fun r e => e ▸ hE0
  show V X (0, 0) σ 0 [(0, .ref (x0)), (1, .int (x1))] []
  unfold fX12_count at hf
  refine x_aload_n C dX12_count_0 1 rfl 0 rfl rfl ?_
  refine x_iconst C dX12_count_1 2 rfl 0 (by decide) ?_
  obtain ⟨σ2, hσ2, hf⟩ := x_bind hf
  refine x_putX C dX12_count_2 5 rfl hσ2 cl11 rfl w1443 rfl rfl rfl ?_
  refine x_aload_n C dX12_count_5 6 rfl 0 rfl rfl ?_
  refine x_iload_n C dX12_count_6 7 rfl 1 rfl rfl ?_
  refine x_i2l C dX12_count_7 8 rfl ?_
  refine x_lconst C dX12_count_8 9 rfl 0 (by decide) ?_
  refine x_ldc2 C dX12_count_9 12 rfl w1704 ?_
  obtain ⟨w12, hw12, hf⟩ := x_bind hf
  refine x_callSi C dX12_count_12 15 rfl (cX12_isInc hw12) kX12_isIn ksX12_isIn w1645 ⟨rfl, rfl⟩ ⟨Nat.le_of_ble_eq_true rfl, Nat.le_of_ble_eq_true rfl⟩ ⟨Nat.zero_le _, Nat.zero_le _⟩ rfl rfl (Nat.le_of_ble_eq_true rfl) ?_
  refine x_iconst C dX12_count_15 16 rfl 1 (by decide) ?_
  obtain ⟨o16, ho16, hf⟩ := x_bind hf
  obtain ⟨w16, hw16, hf⟩ := x_bind hf
  refine x_callVi C dX12_count_16 19 rfl ho16 cl11.1 rfl (cX12_rightc hw16) kX12_right kvX12_right w1648 ⟨rfl, rfl⟩ ⟨Nat.le_of_ble_eq_true rfl, Nat.le_of_ble_eq_true rfl⟩ ⟨Nat.zero_le _, Nat.zero_le _⟩ rfl rfl (Nat.le_of_ble_eq_true rfl) ?_
  refine x_if_ne C dX12_count_19 24 (by decide) 22 rfl (fun hc => ?_) (fun hc => ?_)
  · have hf := (if_neg hc).symm.trans hf
    refine x_iload_n C dX12_count_24 25 rfl 1 rfl rfl ?_
    by_cases hc : x1.toInt < 0 ∨ 5 < x1.toInt
    · have hf := (if_pos hc).symm.trans hf
      refine x_tableOut C dX12_count_25 hc 94 (by decide) ?_
      refine x_aload_n C dX12_count_94 95 rfl 0 rfl rfl ?_
      obtain ⟨o95, ho95, hf⟩ := x_bind hf
      obtain ⟨w95, hw95, hf⟩ := x_bind hf
      refine x_callVi C dX12_count_95 98 rfl ho95 cl11.1 rfl (cX12_fallingc hw95) kX12_falling kvX12_falling w1830 ⟨rfl, rfl⟩ ⟨Nat.le_of_ble_eq_true rfl, Nat.le_of_ble_eq_true rfl⟩ ⟨Nat.zero_le _, Nat.zero_le _⟩ rfl rfl (Nat.le_of_ble_eq_true rfl) ?_
      exact x_iret C (hE _ (Option.some.inj hf).symm) dX12_count_98
    · have hf := (if_neg hc).symm.trans hf
      by_cases hj0 : x1 = 0
      · have hf := (if_pos hj0).symm.trans hf
        refine x_topi hj0 ?_
        refine x_tableIn C dX12_count_25 (by decide) (by decide) (off := 39) (by decide) 64 (by decide) ?_
        refine x_aload_n C dX12_count_64 65 rfl 0 rfl rfl ?_
        obtain ⟨o65, ho65, hf⟩ := x_bind hf
        obtain ⟨w65, hw65, hf⟩ := x_bind hf
        refine x_callVi C dX12_count_65 68 rfl ho65 cl11.1 rfl (cX12_lettersc hw65) kX12_letters kvX12_letters w1860 ⟨rfl, rfl⟩ ⟨Nat.le_of_ble_eq_true rfl, Nat.le_of_ble_eq_true rfl⟩ ⟨Nat.zero_le _, Nat.zero_le _⟩ rfl rfl (Nat.le_of_ble_eq_true rfl) ?_
        exact x_iret C (hE _ (Option.some.inj hf).symm) dX12_count_68
      · have hf := (if_neg hj0).symm.trans hf
        by_cases hj1 : x1 = 1
        · have hf := (if_pos hj1).symm.trans hf
          refine x_topi hj1 ?_
          refine x_tableIn C dX12_count_25 (by decide) (by decide) (off := 44) (by decide) 69 (by decide) ?_
          refine x_aload_n C dX12_count_69 70 rfl 0 rfl rfl ?_
          obtain ⟨o70, ho70, hf⟩ := x_bind hf
          obtain ⟨w70, hw70, hf⟩ := x_bind hf
          refine x_callVi C dX12_count_70 73 rfl ho70 cl11.1 rfl (cX12_rulesc hw70) kX12_rules kvX12_rules w1735 ⟨rfl, rfl⟩ ⟨Nat.le_of_ble_eq_true rfl, Nat.le_of_ble_eq_true rfl⟩ ⟨Nat.zero_le _, Nat.zero_le _⟩ rfl rfl (Nat.le_of_ble_eq_true rfl) ?_
          exact x_iret C (hE _ (Option.some.inj hf).symm) dX12_count_73
        · have hf := (if_neg hj1).symm.trans hf
          by_cases hj2 : x1 = 2
          · have hf := (if_pos hj2).symm.trans hf
            refine x_topi hj2 ?_
            refine x_tableIn C dX12_count_25 (by decide) (by decide) (off := 49) (by decide) 74 (by decide) ?_
            refine x_aload_n C dX12_count_74 75 rfl 0 rfl rfl ?_
            obtain ⟨v75, hv75, hf⟩ := x_bind hf
            refine x_getI C dX12_count_75 78 rfl hv75 cl11 rfl w1448 ?_
            exact x_iret C (hE _ (Option.some.inj hf).symm) dX12_count_78
          · have hf := (if_neg hj2).symm.trans hf
            by_cases hj3 : x1 = 3
            · have hf := (if_pos hj3).symm.trans hf
              refine x_topi hj3 ?_
              refine x_tableIn C dX12_count_25 (by decide) (by decide) (off := 54) (by decide) 79 (by decide) ?_
              refine x_aload_n C dX12_count_79 80 rfl 0 rfl rfl ?_
              obtain ⟨v80, hv80, hf⟩ := x_bind hf
              refine x_getI C dX12_count_80 83 rfl hv80 cl11 rfl w1450 ?_
              exact x_iret C (hE _ (Option.some.inj hf).symm) dX12_count_83
            · have hf := (if_neg hj3).symm.trans hf
              by_cases hj4 : x1 = 4
              · have hf := (if_pos hj4).symm.trans hf
                refine x_topi hj4 ?_
                refine x_tableIn C dX12_count_25 (by decide) (by decide) (off := 59) (by decide) 84 (by decide) ?_
                refine x_aload_n C dX12_count_84 85 rfl 0 rfl rfl ?_
                obtain ⟨o85, ho85, hf⟩ := x_bind hf
                obtain ⟨w85, hw85, hf⟩ := x_bind hf
                refine x_callVi C dX12_count_85 88 rfl ho85 cl11.1 rfl (cX12_overlapManyc hw85) kX12_overlapMany kvX12_overlapMany w1871 ⟨rfl, rfl⟩ ⟨Nat.le_of_ble_eq_true rfl, Nat.le_of_ble_eq_true rfl⟩ ⟨Nat.zero_le _, Nat.zero_le _⟩ rfl rfl (Nat.le_of_ble_eq_true rfl) ?_
                exact x_iret C (hE _ (Option.some.inj hf).symm) dX12_count_88
              · have hf := (if_neg hj4).symm.trans hf
                by_cases hj5 : x1 = 5
                · have hf := (if_pos hj5).symm.trans hf
                  refine x_topi hj5 ?_
                  refine x_tableIn C dX12_count_25 (by decide) (by decide) (off := 64) (by decide) 89 (by decide) ?_
                  refine x_aload_n C dX12_count_89 90 rfl 0 rfl rfl ?_
                  obtain ⟨o90, ho90, hf⟩ := x_bind hf
                  obtain ⟨w90, hw90, hf⟩ := x_bind hf
                  refine x_callVi C dX12_count_90 93 rfl ho90 cl11.1 rfl (cX12_unclosedc hw90) kX12_unclosed kvX12_unclosed w1875 ⟨rfl, rfl⟩ ⟨Nat.le_of_ble_eq_true rfl, Nat.le_of_ble_eq_true rfl⟩ ⟨Nat.zero_le _, Nat.zero_le _⟩ rfl rfl (Nat.le_of_ble_eq_true rfl) ?_
                  exact x_iret C (hE _ (Option.some.inj hf).symm) dX12_count_93
                · have hf := (if_neg hj5).symm.trans hf
                  cases hf
  · have hf := (if_pos hc).symm.trans hf
    refine x_iconst C dX12_count_22 23 rfl 0 (by decide) ?_
    exact x_iret C (hE _ (Option.some.inj hf).symm) dX12_count_23
