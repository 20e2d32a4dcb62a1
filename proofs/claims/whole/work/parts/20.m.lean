/-! methods: X12_tried X12_doAllFall X12_drops X12_endOf X12_endsLeft X12_falls X12_farOf X12_far X12_fault X12_feed -/
theorem dX12_tried_0 : decode cX12_tried 0 = .ok (.iconst 0, 1) := by decide +kernel
theorem dX12_tried_1 : decode cX12_tried 1 = .ok (.istore_n 3, 1) := by decide +kernel
theorem dX12_tried_2 : decode cX12_tried 2 = .ok (.lload_n 1, 1) := by decide +kernel
theorem dX12_tried_3 : decode cX12_tried 3 = .ok (.lstore 4, 2) := by decide +kernel
theorem dX12_tried_5 : decode cX12_tried 5 = .ok (.lload 4, 2) := by decide +kernel
theorem dX12_tried_7 : decode cX12_tried 7 = .ok (.lconst 0, 1) := by decide +kernel
theorem dX12_tried_8 : decode cX12_tried 8 = .ok (.lcmp, 1) := by decide +kernel
theorem dX12_tried_9 : decode cX12_tried 9 = .ok (.ifCond .le 31, 3) := by decide +kernel
theorem dX12_tried_12 : decode cX12_tried 12 = .ok (.iload_n 3, 1) := by decide +kernel
theorem dX12_tried_13 : decode cX12_tried 13 = .ok (.aload_n 0, 1) := by decide +kernel
theorem dX12_tried_14 : decode cX12_tried 14 = .ok (.getfield 52, 3) := by decide +kernel
theorem dX12_tried_17 : decode cX12_tried 17 = .ok (.lload 4, 2) := by decide +kernel
theorem dX12_tried_19 : decode cX12_tried 19 = .ok (.ldc2_w 134, 3) := by decide +kernel
theorem dX12_tried_22 : decode cX12_tried 22 = .ok (.lrem, 1) := by decide +kernel
theorem dX12_tried_23 : decode cX12_tried 23 = .ok (.l2i, 1) := by decide +kernel
theorem dX12_tried_24 : decode cX12_tried 24 = .ok (.iconst 1, 1) := by decide +kernel
theorem dX12_tried_25 : decode cX12_tried 25 = .ok (.isub, 1) := by decide +kernel
theorem dX12_tried_26 : decode cX12_tried 26 = .ok (.iaload, 1) := by decide +kernel
theorem dX12_tried_27 : decode cX12_tried 27 = .ok (.iadd, 1) := by decide +kernel
theorem dX12_tried_28 : decode cX12_tried 28 = .ok (.istore_n 3, 1) := by decide +kernel
theorem dX12_tried_29 : decode cX12_tried 29 = .ok (.lload 4, 2) := by decide +kernel
theorem dX12_tried_31 : decode cX12_tried 31 = .ok (.ldc2_w 134, 3) := by decide +kernel
theorem dX12_tried_34 : decode cX12_tried 34 = .ok (.ldiv, 1) := by decide +kernel
theorem dX12_tried_35 : decode cX12_tried 35 = .ok (.lstore 4, 2) := by decide +kernel
theorem dX12_tried_37 : decode cX12_tried 37 = .ok (.goto (-32), 3) := by decide +kernel
theorem dX12_tried_40 : decode cX12_tried 40 = .ok (.iload_n 3, 1) := by decide +kernel
theorem dX12_tried_41 : decode cX12_tried 41 = .ok (.ireturn, 1) := by decide +kernel
abbrev rmX12_tried : Room := { frames := 0, cells := 0, slots := 0, locals := 0 }
noncomputable def fLX12_tried_5 (σ : St) (x0 : Nat) (a : Int32 × Int64) : Option ((Int32 × Int64) ⊕ (Int32)) :=
if (lg_cmp a.2 0) ≤ 0 then
(some (Sum.inr a.1))
else
((gR σ x0 11 35).bind fun v14 =>
(aI σ v14 0 (((a.2 - a.2 / 6 * 6).toInt32) - 1)).bind fun v26 =>
xlet (a.1 + v26) fun v28 =>
xlet (a.2 / 6) fun v35 =>
some (Sum.inl (v28, v35)))
set_option maxHeartbeats 4000000 in
set_option maxRecDepth 100000 in
theorem lpX12_tried_5 {X : xX} {σ : St} {x0 : Nat}  {a0 : Int32 × Int64} {b : Int32} (C : Ok X cX12_tried 6 RX12 rmX12_tried (some .int)) (hb : iterP (fLX12_tried_5 σ x0) a0 = some b) (hy0 : ∀ s, b = s → V X (0, 0) σ 40 [(3, .int (s))] []) : V X (0, 0) σ 5 [(0, .ref (x0)), (3, .int (a0.1)), (4, .long (a0.2))] [] := by
  obtain ⟨n, hn⟩ := iterP_some hb
  refine x_loop (P := fun a => V X (0, 0) σ 5 [(0, .ref (x0)), (3, .int (a.1)), (4, .long (a.2))] []) ?_ n a0 hn
  intro a c hf hK hxx
  have hx0 : ∀ s, c = Sum.inr s → V X (0, 0) σ 40 [(3, .int (s))] [] := fun s e => hy0 s (hxx _ e).symm
  unfold fLX12_tried_5 at hf
  refine x_lload C dX12_tried_5 7 rfl 2 rfl ?_
  refine x_lconst C dX12_tried_7 8 rfl 0 (by decide) ?_
  refine x_lcmp C dX12_tried_8 9 rfl ?_
  refine x_if_le C dX12_tried_9 40 (by decide) 12 rfl (fun hc => ?_) (fun hc => ?_)
  · have hf := (if_pos hc).symm.trans hf
    refine x_lv [1] (lv' := [(3, .int (a.1))]) rfl ?_
    exact hx0 _ (Option.some.inj hf).symm
  · have hf := (if_neg hc).symm.trans hf
    refine x_iload_n C dX12_tried_12 13 rfl 1 rfl rfl ?_
    refine x_aload_n C dX12_tried_13 14 rfl 0 rfl rfl ?_
    obtain ⟨v14, hv14, hf⟩ := x_bind hf
    refine x_getR C dX12_tried_14 17 rfl hv14 cl11 rfl w1478 ?_
    refine x_lload C dX12_tried_17 19 rfl 2 rfl ?_
    refine x_ldc2 C dX12_tried_19 22 rfl w1704 ?_
    refine x_lrem C dX12_tried_22 23 rfl (by decide) ?_
    refine x_l2i C dX12_tried_23 24 rfl ?_
    refine x_iconst C dX12_tried_24 25 rfl 1 (by decide) ?_
    refine x_isub C dX12_tried_25 26 rfl ?_
    obtain ⟨v26, hv26, hf⟩ := x_bind hf
    refine x_iaload C dX12_tried_26 27 rfl hv26 ?_
    refine x_iadd C dX12_tried_27 28 rfl ?_
    obtain ⟨v28, ev28, hf⟩ := xlet_some hf
    refine x_topi ev28 ?_
    refine x_istore_n C dX12_tried_28 29 rfl rfl rfl [(3, .int (v28)), (0, .ref (x0)), (4, .long (a.2))] rfl ?_
    refine x_lload C dX12_tried_29 31 rfl 2 rfl ?_
    refine x_ldc2 C dX12_tried_31 34 rfl w1704 ?_
    refine x_ldiv C dX12_tried_34 35 rfl (by decide) ?_
    obtain ⟨v35, ev35, hf⟩ := xlet_some hf
    refine x_topl ev35 ?_
    refine x_lstore C dX12_tried_35 37 rfl rfl [(4, .long (v35)), (3, .int (v28)), (0, .ref (x0))] rfl ?_
    refine x_goto C dX12_tried_37 5 (by decide) ?_
    refine x_lv [2, 1, 0] (lv' := [(0, .ref (x0)), (3, .int (v28)), (4, .long (v35))]) rfl ?_
    exact hK _ (Option.some.inj hf).symm
noncomputable def fX12_tried (σ : St) (x0 : Nat) (x1 : Int64) : Option (Int32) :=
(iterP (fLX12_tried_5 σ x0) (0, x1)).bind fun b5 =>
some b5
set_option maxHeartbeats 4000000 in
set_option maxRecDepth 100000 in
theorem cX12_triedc {l : Launch} {G : xG} {A : Nat → Prop} {σ : St} {x0 : Nat} {x1 : Int64} {c : Int32} (hf : fX12_tried σ x0 x1 = some c) : Con l yX12_tried (xws yX12_tried cX12_tried 6 (some .int)) rmX12_tried [.ref (x0), .long (x1)] G A σ (some (.int c)) σ := by
  refine x_start rfl (Nat.le_of_ble_eq_true rfl) (fun X _ _ _ C hE0 => ?_)
  have hE : ∀ r, c = r → xE1 X (some (.int r)) σ := fun r e => e ▸ hE0
  show V X (0, 0) σ 0 [(0, .ref (x0)), (1, .long (x1))] []
  unfold fX12_tried at hf
  refine x_iconst C dX12_tried_0 1 rfl 0 (by decide) ?_
  refine x_istore_n C dX12_tried_1 2 rfl rfl rfl [(3, .int (0)), (0, .ref (x0)), (1, .long (x1))] rfl ?_
  refine x_lload_n C dX12_tried_2 3 rfl 2 rfl rfl ?_
  refine x_lstore C dX12_tried_3 5 rfl rfl [(4, .long (x1)), (3, .int (0)), (0, .ref (x0)), (1, .long (x1))] rfl ?_
  obtain ⟨b5, hb5, hf⟩ := x_bind hf
  refine x_lv [2, 1, 0] (lv' := [(0, .ref (x0)), (3, .int (0)), (4, .long (x1))]) rfl ?_
  refine lpX12_tried_5 C hb5 (fun s5 e5 => ?_)
  subst e5
  refine x_iload_n C dX12_tried_40 41 rfl 0 rfl rfl ?_
  exact x_iret C (hE _ (Option.some.inj hf).symm) dX12_tried_41
theorem dX12_doAllFall_0 : decode cX12_doAllFall 0 = .ok (.iconst 0, 1) := by decide +kernel
theorem dX12_doAllFall_1 : decode cX12_doAllFall 1 = .ok (.istore_n 1, 1) := by decide +kernel
theorem dX12_doAllFall_2 : decode cX12_doAllFall 2 = .ok (.iload_n 1, 1) := by decide +kernel
theorem dX12_doAllFall_3 : decode cX12_doAllFall 3 = .ok (.aload_n 0, 1) := by decide +kernel
theorem dX12_doAllFall_4 : decode cX12_doAllFall 4 = .ok (.invokevirtual 273, 3) := by decide +kernel
theorem dX12_doAllFall_7 : decode cX12_doAllFall 7 = .ok (.if_icmp .ge 32, 3) := by decide +kernel
theorem dX12_doAllFall_10 : decode cX12_doAllFall 10 = .ok (.aload_n 0, 1) := by decide +kernel
theorem dX12_doAllFall_11 : decode cX12_doAllFall 11 = .ok (.aload_n 0, 1) := by decide +kernel
theorem dX12_doAllFall_12 : decode cX12_doAllFall 12 = .ok (.iload_n 1, 1) := by decide +kernel
theorem dX12_doAllFall_13 : decode cX12_doAllFall 13 = .ok (.invokevirtual 285, 3) := by decide +kernel
theorem dX12_doAllFall_16 : decode cX12_doAllFall 16 = .ok (.invokevirtual 425, 3) := by decide +kernel
theorem dX12_doAllFall_19 : decode cX12_doAllFall 19 = .ok (.aload_n 0, 1) := by decide +kernel
theorem dX12_doAllFall_20 : decode cX12_doAllFall 20 = .ok (.aload_n 0, 1) := by decide +kernel
theorem dX12_doAllFall_21 : decode cX12_doAllFall 21 = .ok (.iload_n 1, 1) := by decide +kernel
theorem dX12_doAllFall_22 : decode cX12_doAllFall 22 = .ok (.invokevirtual 288, 3) := by decide +kernel
theorem dX12_doAllFall_25 : decode cX12_doAllFall 25 = .ok (.invokevirtual 425, 3) := by decide +kernel
theorem dX12_doAllFall_28 : decode cX12_doAllFall 28 = .ok (.if_icmp .gt 5, 3) := by decide +kernel
theorem dX12_doAllFall_31 : decode cX12_doAllFall 31 = .ok (.iconst 0, 1) := by decide +kernel
theorem dX12_doAllFall_32 : decode cX12_doAllFall 32 = .ok (.ireturn, 1) := by decide +kernel
theorem dX12_doAllFall_33 : decode cX12_doAllFall 33 = .ok (.iinc 1 1, 3) := by decide +kernel
theorem dX12_doAllFall_36 : decode cX12_doAllFall 36 = .ok (.goto (-34), 3) := by decide +kernel
theorem dX12_doAllFall_39 : decode cX12_doAllFall 39 = .ok (.iconst 1, 1) := by decide +kernel
theorem dX12_doAllFall_40 : decode cX12_doAllFall 40 = .ok (.ireturn, 1) := by decide +kernel
abbrev rmX12_doAllFall : Room := { frames := 1, cells := 0, slots := 0, locals := 25 }
noncomputable def fLX12_doAllFall_2 (σ : St) (x0 : Nat) (a : Int32) : Option ((Int32) ⊕ ((Unit) ⊕ (Unit))) :=
(isO σ x0 11).bind fun _ =>
(fX12_rules σ x0).bind fun w4 =>
if w4 ≤ a then
(some (Sum.inr (Sum.inr ())))
else
((isO σ x0 11).bind fun _ =>
(fX12_leftOf σ x0 a).bind fun w13 =>
(isO σ x0 11).bind fun _ =>
(fX12_tried σ x0 w13).bind fun w16 =>
(isO σ x0 11).bind fun _ =>
(fX12_rightOf σ x0 a).bind fun w22 =>
(isO σ x0 11).bind fun _ =>
(fX12_tried σ x0 w22).bind fun w25 =>
if w25 < w16 then
(xlet (a + 1) fun v33 =>
some (Sum.inl v33))
else
(some (Sum.inr (Sum.inl ()))))
set_option maxHeartbeats 4000000 in
set_option maxRecDepth 100000 in
theorem lpX12_doAllFall_2 {X : xX} {σ : St} {x0 : Nat}  {a0 : Int32} {b : (Unit) ⊕ (Unit)} (C : Ok X cX12_doAllFall 2 RX12 rmX12_doAllFall (some .boolean)) (hb : iterP (fLX12_doAllFall_2 σ x0) a0 = some b) (hy0 : ∀ s, b = (Sum.inl s) → V X (0, 0) σ 31 [] []) (hy1 : ∀ s, b = (Sum.inr s) → V X (0, 0) σ 39 [] []) : V X (0, 0) σ 2 [(0, .ref (x0)), (1, .int (a0))] [] := by
  obtain ⟨n, hn⟩ := iterP_some hb
  refine x_loop (P := fun a => V X (0, 0) σ 2 [(0, .ref (x0)), (1, .int (a))] []) ?_ n a0 hn
  intro a c hf hK hxx
  have hx0 : ∀ s, c = Sum.inr (Sum.inl s) → V X (0, 0) σ 31 [] [] := fun s e => hy0 s (hxx _ e).symm
  have hx1 : ∀ s, c = Sum.inr (Sum.inr s) → V X (0, 0) σ 39 [] [] := fun s e => hy1 s (hxx _ e).symm
  unfold fLX12_doAllFall_2 at hf
  refine x_iload_n C dX12_doAllFall_2 3 rfl 1 rfl rfl ?_
  refine x_aload_n C dX12_doAllFall_3 4 rfl 0 rfl rfl ?_
  obtain ⟨o4, ho4, hf⟩ := x_bind hf
  obtain ⟨w4, hw4, hf⟩ := x_bind hf
  refine x_callVi C dX12_doAllFall_4 7 rfl ho4 cl11.1 rfl (cX12_rulesc hw4) kX12_rules kvX12_rules w1735 ⟨rfl, rfl⟩ ⟨Nat.le_of_ble_eq_true rfl, Nat.le_of_ble_eq_true rfl⟩ ⟨Nat.zero_le _, Nat.zero_le _⟩ rfl rfl (Nat.le_of_ble_eq_true rfl) ?_
  refine x_icmp_ge C dX12_doAllFall_7 39 (by decide) 10 rfl (fun hc => ?_) (fun hc => ?_)
  · have hf := (if_pos hc).symm.trans hf
    refine x_lv [] (lv' := []) rfl ?_
    exact hx1 _ (Option.some.inj hf).symm
  · have hf := (if_neg hc).symm.trans hf
    refine x_aload_n C dX12_doAllFall_10 11 rfl 0 rfl rfl ?_
    refine x_aload_n C dX12_doAllFall_11 12 rfl 0 rfl rfl ?_
    refine x_iload_n C dX12_doAllFall_12 13 rfl 1 rfl rfl ?_
    obtain ⟨o13, ho13, hf⟩ := x_bind hf
    obtain ⟨w13, hw13, hf⟩ := x_bind hf
    refine x_callVl C dX12_doAllFall_13 16 rfl ho13 cl11.1 rfl (cX12_leftOfc hw13) kX12_leftOf kvX12_leftOf w1752 ⟨rfl, rfl⟩ ⟨Nat.le_of_ble_eq_true rfl, Nat.le_of_ble_eq_true rfl⟩ ⟨Nat.zero_le _, Nat.zero_le _⟩ rfl rfl (Nat.le_of_ble_eq_true rfl) ?_
    obtain ⟨o16, ho16, hf⟩ := x_bind hf
    obtain ⟨w16, hw16, hf⟩ := x_bind hf
    refine x_callVi C dX12_doAllFall_16 19 rfl ho16 cl11.1 rfl (cX12_triedc hw16) kX12_tried kvX12_tried w1909 ⟨rfl, rfl⟩ ⟨Nat.le_of_ble_eq_true rfl, Nat.le_of_ble_eq_true rfl⟩ ⟨Nat.zero_le _, Nat.zero_le _⟩ rfl rfl (Nat.le_of_ble_eq_true rfl) ?_
    refine x_aload_n C dX12_doAllFall_19 20 rfl 0 rfl rfl ?_
    refine x_aload_n C dX12_doAllFall_20 21 rfl 0 rfl rfl ?_
    refine x_iload_n C dX12_doAllFall_21 22 rfl 1 rfl rfl ?_
    obtain ⟨o22, ho22, hf⟩ := x_bind hf
    obtain ⟨w22, hw22, hf⟩ := x_bind hf
    refine x_callVl C dX12_doAllFall_22 25 rfl ho22 cl11.1 rfl (cX12_rightOfc hw22) kX12_rightOf kvX12_rightOf w1756 ⟨rfl, rfl⟩ ⟨Nat.le_of_ble_eq_true rfl, Nat.le_of_ble_eq_true rfl⟩ ⟨Nat.zero_le _, Nat.zero_le _⟩ rfl rfl (Nat.le_of_ble_eq_true rfl) ?_
    obtain ⟨o25, ho25, hf⟩ := x_bind hf
    obtain ⟨w25, hw25, hf⟩ := x_bind hf
    refine x_callVi C dX12_doAllFall_25 28 rfl ho25 cl11.1 rfl (cX12_triedc hw25) kX12_tried kvX12_tried w1909 ⟨rfl, rfl⟩ ⟨Nat.le_of_ble_eq_true rfl, Nat.le_of_ble_eq_true rfl⟩ ⟨Nat.zero_le _, Nat.zero_le _⟩ rfl rfl (Nat.le_of_ble_eq_true rfl) ?_
    refine x_icmp_gt C dX12_doAllFall_28 33 (by decide) 31 rfl (fun hc => ?_) (fun hc => ?_)
    · have hf := (if_pos hc).symm.trans hf
      obtain ⟨v33, ev33, hf⟩ := xlet_some hf
      refine x_iinc C dX12_doAllFall_33 36 rfl 1 rfl v33 ev33 rfl [(1, .int (v33)), (0, .ref (x0))] rfl ?_
      refine x_goto C dX12_doAllFall_36 2 (by decide) ?_
      refine x_lv [1, 0] (lv' := [(0, .ref (x0)), (1, .int (v33))]) rfl ?_
      exact hK _ (Option.some.inj hf).symm
    · have hf := (if_neg hc).symm.trans hf
      refine x_lv [] (lv' := []) rfl ?_
      exact hx0 _ (Option.some.inj hf).symm
noncomputable def fX12_doAllFall (σ : St) (x0 : Nat) : Option (Int32) :=
(iterP (fLX12_doAllFall_2 σ x0) 0).bind fun b2 =>
(match b2 with
| .inl s2 =>
some 0
| .inr s2 =>
some 1)
set_option maxHeartbeats 4000000 in
set_option maxRecDepth 100000 in
theorem cX12_doAllFallc {l : Launch} {G : xG} {A : Nat → Prop} {σ : St} {x0 : Nat} {c : Int32} (hf : fX12_doAllFall σ x0 = some c) : Con l yX12_doAllFall (xws yX12_doAllFall cX12_doAllFall 2 (some .boolean)) rmX12_doAllFall [.ref (x0)] G A σ (some (.int c)) σ := by
  refine x_start rfl (Nat.le_of_ble_eq_true rfl) (fun X _ _ _ C hE0 => ?_)
  have hE : ∀ r, c = r → xE1 X (some (.int r)) σ := fun r e => e ▸ hE0
  show V X (0, 0) σ 0 [(0, .ref (x0))] []
  unfold fX12_doAllFall at hf
  refine x_iconst C dX12_doAllFall_0 1 rfl 0 (by decide) ?_
  refine x_istore_n C dX12_doAllFall_1 2 rfl rfl rfl [(1, .int (0)), (0, .ref (x0))] rfl ?_
  obtain ⟨b2, hb2, hf⟩ := x_bind hf
  refine x_lv [1, 0] (lv' := [(0, .ref (x0)), (1, .int (0))]) rfl ?_
  refine lpX12_doAllFall_2 C hb2 (fun s2 e2 => ?_) (fun s2 e2 => ?_)
  · subst e2
    try dsimp only at hf
    refine x_iconst C dX12_doAllFall_31 32 rfl 0 (by decide) ?_
    exact x_zret C rfl (hE _ (Option.some.inj hf).symm) dX12_doAllFall_32
  · subst e2
    try dsimp only at hf
    refine x_iconst C dX12_doAllFall_39 40 rfl 1 (by decide) ?_
    exact x_zret C rfl (hE _ (Option.some.inj hf).symm) dX12_doAllFall_40
theorem dX12_drops_0 : decode cX12_drops 0 = .ok (.iload_n 1, 1) := by decide +kernel
theorem dX12_drops_1 : decode cX12_drops 1 = .ok (.istore_n 2, 1) := by decide +kernel
theorem dX12_drops_2 : decode cX12_drops 2 = .ok (.iload_n 2, 1) := by decide +kernel
theorem dX12_drops_3 : decode cX12_drops 3 = .ok (.iconst 1, 1) := by decide +kernel
theorem dX12_drops_4 : decode cX12_drops 4 = .ok (.iadd, 1) := by decide +kernel
theorem dX12_drops_5 : decode cX12_drops 5 = .ok (.aload_n 0, 1) := by decide +kernel
theorem dX12_drops_6 : decode cX12_drops 6 = .ok (.invokevirtual 273, 3) := by decide +kernel
theorem dX12_drops_9 : decode cX12_drops 9 = .ok (.if_icmp .ge 49, 3) := by decide +kernel
theorem dX12_drops_12 : decode cX12_drops 12 = .ok (.aload_n 0, 1) := by decide +kernel
theorem dX12_drops_13 : decode cX12_drops 13 = .ok (.getfield 13, 3) := by decide +kernel
theorem dX12_drops_16 : decode cX12_drops 16 = .ok (.bipush 12, 2) := by decide +kernel
theorem dX12_drops_18 : decode cX12_drops 18 = .ok (.iload_n 2, 1) := by decide +kernel
theorem dX12_drops_19 : decode cX12_drops 19 = .ok (.iadd, 1) := by decide +kernel
theorem dX12_drops_20 : decode cX12_drops 20 = .ok (.aload_n 0, 1) := by decide +kernel
theorem dX12_drops_21 : decode cX12_drops 21 = .ok (.getfield 13, 3) := by decide +kernel
theorem dX12_drops_24 : decode cX12_drops 24 = .ok (.bipush 12, 2) := by decide +kernel
theorem dX12_drops_26 : decode cX12_drops 26 = .ok (.iload_n 2, 1) := by decide +kernel
theorem dX12_drops_27 : decode cX12_drops 27 = .ok (.iadd, 1) := by decide +kernel
theorem dX12_drops_28 : decode cX12_drops 28 = .ok (.iconst 1, 1) := by decide +kernel
theorem dX12_drops_29 : decode cX12_drops 29 = .ok (.iadd, 1) := by decide +kernel
theorem dX12_drops_30 : decode cX12_drops 30 = .ok (.laload, 1) := by decide +kernel
theorem dX12_drops_31 : decode cX12_drops 31 = .ok (.lastore, 1) := by decide +kernel
theorem dX12_drops_32 : decode cX12_drops 32 = .ok (.aload_n 0, 1) := by decide +kernel
theorem dX12_drops_33 : decode cX12_drops 33 = .ok (.getfield 13, 3) := by decide +kernel
theorem dX12_drops_36 : decode cX12_drops 36 = .ok (.bipush 24, 2) := by decide +kernel
theorem dX12_drops_38 : decode cX12_drops 38 = .ok (.iload_n 2, 1) := by decide +kernel
theorem dX12_drops_39 : decode cX12_drops 39 = .ok (.iadd, 1) := by decide +kernel
theorem dX12_drops_40 : decode cX12_drops 40 = .ok (.aload_n 0, 1) := by decide +kernel
theorem dX12_drops_41 : decode cX12_drops 41 = .ok (.getfield 13, 3) := by decide +kernel
theorem dX12_drops_44 : decode cX12_drops 44 = .ok (.bipush 24, 2) := by decide +kernel
theorem dX12_drops_46 : decode cX12_drops 46 = .ok (.iload_n 2, 1) := by decide +kernel
theorem dX12_drops_47 : decode cX12_drops 47 = .ok (.iadd, 1) := by decide +kernel
theorem dX12_drops_48 : decode cX12_drops 48 = .ok (.iconst 1, 1) := by decide +kernel
theorem dX12_drops_49 : decode cX12_drops 49 = .ok (.iadd, 1) := by decide +kernel
theorem dX12_drops_50 : decode cX12_drops 50 = .ok (.laload, 1) := by decide +kernel
theorem dX12_drops_51 : decode cX12_drops 51 = .ok (.lastore, 1) := by decide +kernel
theorem dX12_drops_52 : decode cX12_drops 52 = .ok (.iinc 2 1, 3) := by decide +kernel
theorem dX12_drops_55 : decode cX12_drops 55 = .ok (.goto (-53), 3) := by decide +kernel
theorem dX12_drops_58 : decode cX12_drops 58 = .ok (.aload_n 0, 1) := by decide +kernel
theorem dX12_drops_59 : decode cX12_drops 59 = .ok (.getfield 13, 3) := by decide +kernel
theorem dX12_drops_62 : decode cX12_drops 62 = .ok (.iconst 1, 1) := by decide +kernel
theorem dX12_drops_63 : decode cX12_drops 63 = .ok (.dup2, 1) := by decide +kernel
theorem dX12_drops_64 : decode cX12_drops 64 = .ok (.laload, 1) := by decide +kernel
theorem dX12_drops_65 : decode cX12_drops 65 = .ok (.lconst 1, 1) := by decide +kernel
theorem dX12_drops_66 : decode cX12_drops 66 = .ok (.lsub, 1) := by decide +kernel
theorem dX12_drops_67 : decode cX12_drops 67 = .ok (.lastore, 1) := by decide +kernel
theorem dX12_drops_68 : decode cX12_drops 68 = .ok (.return_, 1) := by decide +kernel
abbrev rmX12_drops : Room := { frames := 1, cells := 0, slots := 0, locals := 20 }
noncomputable def fLX12_drops_2 (x0 : Nat) (a : Int32 × St) : Option ((Int32 × St) ⊕ (St)) :=
(isO a.2 x0 11).bind fun _ =>
(fX12_rules a.2 x0).bind fun w6 =>
if w6 ≤ (a.1 + 1) then
(some (Sum.inr a.2))
else
((gR a.2 x0 11 1).bind fun v13 =>
(gR a.2 x0 11 1).bind fun v21 =>
(aL a.2 v21 ((12 + a.1) + 1)).bind fun v30 =>
(sL a.2 v13 (12 + a.1) v30).bind fun σ31 =>
(gR σ31 x0 11 1).bind fun v33 =>
(gR σ31 x0 11 1).bind fun v41 =>
(aL σ31 v41 ((24 + a.1) + 1)).bind fun v50 =>
(sL σ31 v33 (24 + a.1) v50).bind fun σ51 =>
xlet (a.1 + 1) fun v52 =>
some (Sum.inl (v52, σ51)))
set_option maxHeartbeats 4000000 in
set_option maxRecDepth 100000 in
theorem lpX12_drops_2 {X : xX} {x0 : Nat}  {a0 : Int32 × St} {b : St} (C : Ok X cX12_drops 3 RX12 rmX12_drops none) (hb : iterP (fLX12_drops_2 x0) a0 = some b) (hy0 : ∀ s, b = s → V X (0, 0) s 58 [(0, .ref (x0))] []) : V X (0, 0) a0.2 2 [(0, .ref (x0)), (2, .int (a0.1))] [] := by
  obtain ⟨n, hn⟩ := iterP_some hb
  refine x_loop (P := fun a => V X (0, 0) a.2 2 [(0, .ref (x0)), (2, .int (a.1))] []) ?_ n a0 hn
  intro a c hf hK hxx
  have hx0 : ∀ s, c = Sum.inr s → V X (0, 0) s 58 [(0, .ref (x0))] [] := fun s e => hy0 s (hxx _ e).symm
  unfold fLX12_drops_2 at hf
  refine x_iload_n C dX12_drops_2 3 rfl 1 rfl rfl ?_
  refine x_iconst C dX12_drops_3 4 rfl 1 (by decide) ?_
  refine x_iadd C dX12_drops_4 5 rfl ?_
  refine x_aload_n C dX12_drops_5 6 rfl 0 rfl rfl ?_
  obtain ⟨o6, ho6, hf⟩ := x_bind hf
  obtain ⟨w6, hw6, hf⟩ := x_bind hf
  refine x_callVi C dX12_drops_6 9 rfl ho6 cl11.1 rfl (cX12_rulesc hw6) kX12_rules kvX12_rules w1735 ⟨rfl, rfl⟩ ⟨Nat.le_of_ble_eq_true rfl, Nat.le_of_ble_eq_true rfl⟩ ⟨Nat.zero_le _, Nat.zero_le _⟩ rfl rfl (Nat.le_of_ble_eq_true rfl) ?_
  refine x_icmp_ge C dX12_drops_9 58 (by decide) 12 rfl (fun hc => ?_) (fun hc => ?_)
  · have hf := (if_pos hc).symm.trans hf
    refine x_lv [0] (lv' := [(0, .ref (x0))]) rfl ?_
    exact hx0 _ (Option.some.inj hf).symm
  · have hf := (if_neg hc).symm.trans hf
    refine x_aload_n C dX12_drops_12 13 rfl 0 rfl rfl ?_
    obtain ⟨v13, hv13, hf⟩ := x_bind hf
    refine x_getR C dX12_drops_13 16 rfl hv13 cl11 rfl w1444 ?_
    refine x_bipush C dX12_drops_16 18 rfl 12 (by decide) ?_
    refine x_iload_n C dX12_drops_18 19 rfl 1 rfl rfl ?_
    refine x_iadd C dX12_drops_19 20 rfl ?_
    refine x_aload_n C dX12_drops_20 21 rfl 0 rfl rfl ?_
    obtain ⟨v21, hv21, hf⟩ := x_bind hf
    refine x_getR C dX12_drops_21 24 rfl hv21 cl11 rfl w1444 ?_
    refine x_bipush C dX12_drops_24 26 rfl 12 (by decide) ?_
    refine x_iload_n C dX12_drops_26 27 rfl 1 rfl rfl ?_
    refine x_iadd C dX12_drops_27 28 rfl ?_
    refine x_iconst C dX12_drops_28 29 rfl 1 (by decide) ?_
    refine x_iadd C dX12_drops_29 30 rfl ?_
    obtain ⟨v30, hv30, hf⟩ := x_bind hf
    refine x_laload C dX12_drops_30 31 rfl hv30 ?_
    obtain ⟨σ31, hσ31, hf⟩ := x_bind hf
    refine x_lastore C dX12_drops_31 32 rfl hσ31 ?_
    refine x_aload_n C dX12_drops_32 33 rfl 0 rfl rfl ?_
    obtain ⟨v33, hv33, hf⟩ := x_bind hf
    refine x_getR C dX12_drops_33 36 rfl hv33 cl11 rfl w1444 ?_
    refine x_bipush C dX12_drops_36 38 rfl 24 (by decide) ?_
    refine x_iload_n C dX12_drops_38 39 rfl 1 rfl rfl ?_
    refine x_iadd C dX12_drops_39 40 rfl ?_
    refine x_aload_n C dX12_drops_40 41 rfl 0 rfl rfl ?_
    obtain ⟨v41, hv41, hf⟩ := x_bind hf
    refine x_getR C dX12_drops_41 44 rfl hv41 cl11 rfl w1444 ?_
    refine x_bipush C dX12_drops_44 46 rfl 24 (by decide) ?_
    refine x_iload_n C dX12_drops_46 47 rfl 1 rfl rfl ?_
    refine x_iadd C dX12_drops_47 48 rfl ?_
    refine x_iconst C dX12_drops_48 49 rfl 1 (by decide) ?_
    refine x_iadd C dX12_drops_49 50 rfl ?_
    obtain ⟨v50, hv50, hf⟩ := x_bind hf
    refine x_laload C dX12_drops_50 51 rfl hv50 ?_
    obtain ⟨σ51, hσ51, hf⟩ := x_bind hf
    refine x_lastore C dX12_drops_51 52 rfl hσ51 ?_
    obtain ⟨v52, ev52, hf⟩ := xlet_some hf
    refine x_iinc C dX12_drops_52 55 rfl 1 rfl v52 ev52 rfl [(2, .int (v52)), (0, .ref (x0))] rfl ?_
    refine x_goto C dX12_drops_55 2 (by decide) ?_
    refine x_lv [1, 0] (lv' := [(0, .ref (x0)), (2, .int (v52))]) rfl ?_
    exact hK _ (Option.some.inj hf).symm
noncomputable def fX12_drops (σ : St) (x0 : Nat) (x1 : Int32) : Option (St) :=
(iterP (fLX12_drops_2 x0) (x1, σ)).bind fun b2 =>
(gR b2 x0 11 1).bind fun v59 =>
(aL b2 v59 1).bind fun v64 =>
(sL b2 v59 1 (v64 - 1)).bind fun σ67 =>
some σ67
set_option maxHeartbeats 4000000 in
set_option maxRecDepth 100000 in
theorem cX12_dropsc {l : Launch} {G : xG} {A : Nat → Prop} {σ : St} {x0 : Nat} {x1 : Int32} {c : St} (hf : fX12_drops σ x0 x1 = some c) : Con l yX12_drops (xws yX12_drops cX12_drops 3 none) rmX12_drops [.ref (x0), .int (x1)] G A σ none c := by
  refine x_start rfl (Nat.le_of_ble_eq_true rfl) (fun X _ _ _ C hE0 => ?_)
  have hE : ∀ r, c = r → xE1 X none r := fun r e => e ▸ hE0
  show V X (0, 0) σ 0 [(0, .ref (x0)), (1, .int (x1))] []
  unfold fX12_drops at hf
  refine x_iload_n C dX12_drops_0 1 rfl 1 rfl rfl ?_
  refine x_istore_n C dX12_drops_1 2 rfl rfl rfl [(2, .int (x1)), (0, .ref (x0)), (1, .int (x1))] rfl ?_
  obtain ⟨b2, hb2, hf⟩ := x_bind hf
  refine x_lv [1, 0] (lv' := [(0, .ref (x0)), (2, .int (x1))]) rfl ?_
  refine lpX12_drops_2 C hb2 (fun s2 e2 => ?_)
  subst e2
  refine x_aload_n C dX12_drops_58 59 rfl 0 rfl rfl ?_
  obtain ⟨v59, hv59, hf⟩ := x_bind hf
  refine x_getR C dX12_drops_59 62 rfl hv59 cl11 rfl w1444 ?_
  refine x_iconst C dX12_drops_62 63 rfl 1 (by decide) ?_
  refine x_dup2 C dX12_drops_63 64 rfl rfl rfl ?_
  obtain ⟨v64, hv64, hf⟩ := x_bind hf
  refine x_laload C dX12_drops_64 65 rfl hv64 ?_
  refine x_lconst C dX12_drops_65 66 rfl 1 (by decide) ?_
  refine x_lsub C dX12_drops_66 67 rfl ?_
  obtain ⟨σ67, hσ67, hf⟩ := x_bind hf
  refine x_lastore C dX12_drops_67 68 rfl hσ67 ?_
  exact x_vret C (hE _ (Option.some.inj hf).symm) dX12_drops_68
theorem dX12_endOf_0 : decode cX12_endOf 0 = .ok (.iconst 0, 1) := by decide +kernel
theorem dX12_endOf_1 : decode cX12_endOf 1 = .ok (.istore_n 1, 1) := by decide +kernel
theorem dX12_endOf_2 : decode cX12_endOf 2 = .ok (.iload_n 1, 1) := by decide +kernel
theorem dX12_endOf_3 : decode cX12_endOf 3 = .ok (.aload_n 0, 1) := by decide +kernel
theorem dX12_endOf_4 : decode cX12_endOf 4 = .ok (.getfield 49, 3) := by decide +kernel
theorem dX12_endOf_7 : decode cX12_endOf 7 = .ok (.iconst 0, 1) := by decide +kernel
theorem dX12_endOf_8 : decode cX12_endOf 8 = .ok (.iaload, 1) := by decide +kernel
theorem dX12_endOf_9 : decode cX12_endOf 9 = .ok (.if_icmp .ge 29, 3) := by decide +kernel
theorem dX12_endOf_12 : decode cX12_endOf 12 = .ok (.aload_n 0, 1) := by decide +kernel
theorem dX12_endOf_13 : decode cX12_endOf 13 = .ok (.aload_n 0, 1) := by decide +kernel
theorem dX12_endOf_14 : decode cX12_endOf 14 = .ok (.getfield 43, 3) := by decide +kernel
theorem dX12_endOf_17 : decode cX12_endOf 17 = .ok (.iload_n 1, 1) := by decide +kernel
theorem dX12_endOf_18 : decode cX12_endOf 18 = .ok (.laload, 1) := by decide +kernel
theorem dX12_endOf_19 : decode cX12_endOf 19 = .ok (.invokevirtual 322, 3) := by decide +kernel
theorem dX12_endOf_22 : decode cX12_endOf 22 = .ok (.ifCond .eq 10, 3) := by decide +kernel
theorem dX12_endOf_25 : decode cX12_endOf 25 = .ok (.aload_n 0, 1) := by decide +kernel
theorem dX12_endOf_26 : decode cX12_endOf 26 = .ok (.getfield 46, 3) := by decide +kernel
theorem dX12_endOf_29 : decode cX12_endOf 29 = .ok (.iload_n 1, 1) := by decide +kernel
theorem dX12_endOf_30 : decode cX12_endOf 30 = .ok (.iaload, 1) := by decide +kernel
theorem dX12_endOf_31 : decode cX12_endOf 31 = .ok (.ireturn, 1) := by decide +kernel
theorem dX12_endOf_32 : decode cX12_endOf 32 = .ok (.iinc 1 1, 3) := by decide +kernel
theorem dX12_endOf_35 : decode cX12_endOf 35 = .ok (.goto (-33), 3) := by decide +kernel
theorem dX12_endOf_38 : decode cX12_endOf 38 = .ok (.iconst (-1), 1) := by decide +kernel
theorem dX12_endOf_39 : decode cX12_endOf 39 = .ok (.ireturn, 1) := by decide +kernel
abbrev rmX12_endOf : Room := { frames := 6, cells := 0, slots := 0, locals := 151 }
noncomputable def fLX12_endOf_2 (x0 : Nat) (a : Int32 × St) : Option ((Int32 × St) ⊕ ((Int32 × St) ⊕ (St))) :=
(gR a.2 x0 11 27).bind fun v4 =>
(aI a.2 v4 0 0).bind fun v8 =>
if v8 ≤ a.1 then
(some (Sum.inr (Sum.inr a.2)))
else
((gR a.2 x0 11 25).bind fun v14 =>
(aL a.2 v14 a.1).bind fun v18 =>
(isO a.2 x0 11).bind fun _ =>
(fX12_isNormal a.2 x0 v18).bind fun w19 =>
if w19.1 = 0 then
(xlet (a.1 + 1) fun v32 =>
some (Sum.inl (v32, w19.2)))
else
(some (Sum.inr (Sum.inl (a.1, w19.2)))))
set_option maxHeartbeats 4000000 in
set_option maxRecDepth 100000 in
theorem lpX12_endOf_2 {X : xX} {x0 : Nat}  {a0 : Int32 × St} {b : (Int32 × St) ⊕ (St)} (C : Ok X cX12_endOf 2 RX12 rmX12_endOf (some .int)) (hb : iterP (fLX12_endOf_2 x0) a0 = some b) (hy0 : ∀ s, b = (Sum.inl s) → V X (0, 0) s.2 25 [(0, .ref (x0)), (1, .int (s.1))] []) (hy1 : ∀ s, b = (Sum.inr s) → V X (0, 0) s 38 [] []) : V X (0, 0) a0.2 2 [(0, .ref (x0)), (1, .int (a0.1))] [] := by
  obtain ⟨n, hn⟩ := iterP_some hb
  refine x_loop (P := fun a => V X (0, 0) a.2 2 [(0, .ref (x0)), (1, .int (a.1))] []) ?_ n a0 hn
  intro a c hf hK hxx
  have hx0 : ∀ s, c = Sum.inr (Sum.inl s) → V X (0, 0) s.2 25 [(0, .ref (x0)), (1, .int (s.1))] [] := fun s e => hy0 s (hxx _ e).symm
  have hx1 : ∀ s, c = Sum.inr (Sum.inr s) → V X (0, 0) s 38 [] [] := fun s e => hy1 s (hxx _ e).symm
  unfold fLX12_endOf_2 at hf
  refine x_iload_n C dX12_endOf_2 3 rfl 1 rfl rfl ?_
  refine x_aload_n C dX12_endOf_3 4 rfl 0 rfl rfl ?_
  obtain ⟨v4, hv4, hf⟩ := x_bind hf
  refine x_getR C dX12_endOf_4 7 rfl hv4 cl11 rfl w1470 ?_
  refine x_iconst C dX12_endOf_7 8 rfl 0 (by decide) ?_
  obtain ⟨v8, hv8, hf⟩ := x_bind hf
  refine x_iaload C dX12_endOf_8 9 rfl hv8 ?_
  refine x_icmp_ge C dX12_endOf_9 38 (by decide) 12 rfl (fun hc => ?_) (fun hc => ?_)
  · have hf := (if_pos hc).symm.trans hf
    refine x_lv [] (lv' := []) rfl ?_
    exact hx1 _ (Option.some.inj hf).symm
  · have hf := (if_neg hc).symm.trans hf
    refine x_aload_n C dX12_endOf_12 13 rfl 0 rfl rfl ?_
    refine x_aload_n C dX12_endOf_13 14 rfl 0 rfl rfl ?_
    obtain ⟨v14, hv14, hf⟩ := x_bind hf
    refine x_getR C dX12_endOf_14 17 rfl hv14 cl11 rfl w1468 ?_
    refine x_iload_n C dX12_endOf_17 18 rfl 1 rfl rfl ?_
    obtain ⟨v18, hv18, hf⟩ := x_bind hf
    refine x_laload C dX12_endOf_18 19 rfl hv18 ?_
    obtain ⟨o19, ho19, hf⟩ := x_bind hf
    obtain ⟨w19, hw19, hf⟩ := x_bind hf
    refine x_callVi C dX12_endOf_19 22 rfl ho19 cl11.1 rfl (cX12_isNormalc hw19) kX12_isNormal kvX12_isNormal w1806 ⟨rfl, rfl⟩ ⟨Nat.le_of_ble_eq_true rfl, Nat.le_of_ble_eq_true rfl⟩ ⟨Nat.zero_le _, Nat.zero_le _⟩ rfl rfl (Nat.le_of_ble_eq_true rfl) ?_
    refine x_if_eq C dX12_endOf_22 32 (by decide) 25 rfl (fun hc => ?_) (fun hc => ?_)
    · have hf := (if_pos hc).symm.trans hf
      obtain ⟨v32, ev32, hf⟩ := xlet_some hf
      refine x_iinc C dX12_endOf_32 35 rfl 1 rfl v32 ev32 rfl [(1, .int (v32)), (0, .ref (x0))] rfl ?_
      refine x_goto C dX12_endOf_35 2 (by decide) ?_
      refine x_lv [1, 0] (lv' := [(0, .ref (x0)), (1, .int (v32))]) rfl ?_
      exact hK _ (Option.some.inj hf).symm
    · have hf := (if_neg hc).symm.trans hf
      exact hx0 _ (Option.some.inj hf).symm
noncomputable def fX12_endOf (σ : St) (x0 : Nat) : Option ((Int32 × St)) :=
(iterP (fLX12_endOf_2 x0) (0, σ)).bind fun b2 =>
(match b2 with
| .inl s2 =>
(gR s2.2 x0 11 26).bind fun v26 =>
(aI s2.2 v26 0 s2.1).bind fun v30 =>
some (v30, s2.2)
| .inr s2 =>
some ((-1), s2))
set_option maxHeartbeats 4000000 in
set_option maxRecDepth 100000 in
theorem cX12_endOfc {l : Launch} {G : xG} {A : Nat → Prop} {σ : St} {x0 : Nat} {c : (Int32 × St)} (hf : fX12_endOf σ x0 = some c) : Con l yX12_endOf (xws yX12_endOf cX12_endOf 2 (some .int)) rmX12_endOf [.ref (x0)] G A σ (some (.int c.1)) c.2 := by
  refine x_start rfl (Nat.le_of_ble_eq_true rfl) (fun X _ _ _ C hE0 => ?_)
  have hE : ∀ r, c = r → xE1 X (some (.int r.1)) r.2 := fun r e => e ▸ hE0
  show V X (0, 0) σ 0 [(0, .ref (x0))] []
  unfold fX12_endOf at hf
  refine x_iconst C dX12_endOf_0 1 rfl 0 (by decide) ?_
  refine x_istore_n C dX12_endOf_1 2 rfl rfl rfl [(1, .int (0)), (0, .ref (x0))] rfl ?_
  obtain ⟨b2, hb2, hf⟩ := x_bind hf
  refine x_lv [1, 0] (lv' := [(0, .ref (x0)), (1, .int (0))]) rfl ?_
  refine lpX12_endOf_2 C hb2 (fun s2 e2 => ?_) (fun s2 e2 => ?_)
  · subst e2
    try dsimp only at hf
    refine x_aload_n C dX12_endOf_25 26 rfl 0 rfl rfl ?_
    obtain ⟨v26, hv26, hf⟩ := x_bind hf
    refine x_getR C dX12_endOf_26 29 rfl hv26 cl11 rfl w1469 ?_
    refine x_iload_n C dX12_endOf_29 30 rfl 1 rfl rfl ?_
    obtain ⟨v30, hv30, hf⟩ := x_bind hf
    refine x_iaload C dX12_endOf_30 31 rfl hv30 ?_
    exact x_iret C (hE _ (Option.some.inj hf).symm) dX12_endOf_31
  · subst e2
    try dsimp only at hf
    refine x_iconst C dX12_endOf_38 39 rfl (-1) (by decide) ?_
    exact x_iret C (hE _ (Option.some.inj hf).symm) dX12_endOf_39
theorem dX12_endsLeft_0 : decode cX12_endsLeft 0 = .ok (.lload_n 1, 1) := by decide +kernel
theorem dX12_endsLeft_1 : decode cX12_endsLeft 1 = .ok (.invokestatic 136, 3) := by decide +kernel
theorem dX12_endsLeft_4 : decode cX12_endsLeft 4 = .ok (.istore_n 3, 1) := by decide +kernel
theorem dX12_endsLeft_5 : decode cX12_endsLeft 5 = .ok (.iconst 0, 1) := by decide +kernel
theorem dX12_endsLeft_6 : decode cX12_endsLeft 6 = .ok (.istore 4, 2) := by decide +kernel
theorem dX12_endsLeft_8 : decode cX12_endsLeft 8 = .ok (.iload 4, 2) := by decide +kernel
theorem dX12_endsLeft_10 : decode cX12_endsLeft 10 = .ok (.aload_n 0, 1) := by decide +kernel
theorem dX12_endsLeft_11 : decode cX12_endsLeft 11 = .ok (.invokevirtual 273, 3) := by decide +kernel
theorem dX12_endsLeft_14 : decode cX12_endsLeft 14 = .ok (.if_icmp .ge 48, 3) := by decide +kernel
theorem dX12_endsLeft_17 : decode cX12_endsLeft 17 = .ok (.aload_n 0, 1) := by decide +kernel
theorem dX12_endsLeft_18 : decode cX12_endsLeft 18 = .ok (.iload 4, 2) := by decide +kernel
theorem dX12_endsLeft_20 : decode cX12_endsLeft 20 = .ok (.invokevirtual 285, 3) := by decide +kernel
theorem dX12_endsLeft_23 : decode cX12_endsLeft 23 = .ok (.invokestatic 136, 3) := by decide +kernel
theorem dX12_endsLeft_26 : decode cX12_endsLeft 26 = .ok (.istore 5, 2) := by decide +kernel
theorem dX12_endsLeft_28 : decode cX12_endsLeft 28 = .ok (.iload 5, 2) := by decide +kernel
theorem dX12_endsLeft_30 : decode cX12_endsLeft 30 = .ok (.iload_n 3, 1) := by decide +kernel
theorem dX12_endsLeft_31 : decode cX12_endsLeft 31 = .ok (.if_icmp .gt 25, 3) := by decide +kernel
theorem dX12_endsLeft_34 : decode cX12_endsLeft 34 = .ok (.lload_n 1, 1) := by decide +kernel
theorem dX12_endsLeft_35 : decode cX12_endsLeft 35 = .ok (.iload_n 3, 1) := by decide +kernel
theorem dX12_endsLeft_36 : decode cX12_endsLeft 36 = .ok (.iload 5, 2) := by decide +kernel
theorem dX12_endsLeft_38 : decode cX12_endsLeft 38 = .ok (.isub, 1) := by decide +kernel
theorem dX12_endsLeft_39 : decode cX12_endsLeft 39 = .ok (.iload 5, 2) := by decide +kernel
theorem dX12_endsLeft_41 : decode cX12_endsLeft 41 = .ok (.invokestatic 144, 3) := by decide +kernel
theorem dX12_endsLeft_44 : decode cX12_endsLeft 44 = .ok (.aload_n 0, 1) := by decide +kernel
theorem dX12_endsLeft_45 : decode cX12_endsLeft 45 = .ok (.iload 4, 2) := by decide +kernel
theorem dX12_endsLeft_47 : decode cX12_endsLeft 47 = .ok (.invokevirtual 285, 3) := by decide +kernel
theorem dX12_endsLeft_50 : decode cX12_endsLeft 50 = .ok (.lcmp, 1) := by decide +kernel
theorem dX12_endsLeft_51 : decode cX12_endsLeft 51 = .ok (.ifCond .ne 5, 3) := by decide +kernel
theorem dX12_endsLeft_54 : decode cX12_endsLeft 54 = .ok (.iconst 1, 1) := by decide +kernel
theorem dX12_endsLeft_55 : decode cX12_endsLeft 55 = .ok (.ireturn, 1) := by decide +kernel
theorem dX12_endsLeft_56 : decode cX12_endsLeft 56 = .ok (.iinc 4 1, 3) := by decide +kernel
theorem dX12_endsLeft_59 : decode cX12_endsLeft 59 = .ok (.goto (-51), 3) := by decide +kernel
theorem dX12_endsLeft_62 : decode cX12_endsLeft 62 = .ok (.iconst 0, 1) := by decide +kernel
theorem dX12_endsLeft_63 : decode cX12_endsLeft 63 = .ok (.ireturn, 1) := by decide +kernel
abbrev rmX12_endsLeft : Room := { frames := 2, cells := 0, slots := 0, locals := 47 }
noncomputable def fLX12_endsLeft_8 (σ : St) (x0 : Nat) (x1 : Int64) (x3 : Int32) (a : Int32) : Option ((Int32) ⊕ ((Unit) ⊕ (Unit))) :=
(isO σ x0 11).bind fun _ =>
(fX12_rules σ x0).bind fun w11 =>
if w11 ≤ a then
(some (Sum.inr (Sum.inr ())))
else
((isO σ x0 11).bind fun _ =>
(fX12_leftOf σ x0 a).bind fun w20 =>
(fX12_length w20).bind fun w23 =>
if x3 < w23 then
(xlet (a + 1) fun v56 =>
some (Sum.inl v56))
else
((fX12_part x1 (x3 - w23) w23).bind fun w41 =>
(isO σ x0 11).bind fun _ =>
(fX12_leftOf σ x0 a).bind fun w47 =>
if (lg_cmp w41 w47) = 0 then
(some (Sum.inr (Sum.inl ())))
else
(xlet (a + 1) fun v56 =>
some (Sum.inl v56))))
set_option maxHeartbeats 4000000 in
set_option maxRecDepth 100000 in
theorem lpX12_endsLeft_8 {X : xX} {σ : St} {x0 : Nat} {x1 : Int64} {x3 : Int32}  {a0 : Int32} {b : (Unit) ⊕ (Unit)} (C : Ok X cX12_endsLeft 6 RX12 rmX12_endsLeft (some .boolean)) (hb : iterP (fLX12_endsLeft_8 σ x0 x1 x3) a0 = some b) (hy0 : ∀ s, b = (Sum.inl s) → V X (0, 0) σ 54 [] []) (hy1 : ∀ s, b = (Sum.inr s) → V X (0, 0) σ 62 [] []) : V X (0, 0) σ 8 [(0, .ref (x0)), (1, .long (x1)), (3, .int (x3)), (4, .int (a0))] [] := by
  obtain ⟨n, hn⟩ := iterP_some hb
  refine x_loop (P := fun a => V X (0, 0) σ 8 [(0, .ref (x0)), (1, .long (x1)), (3, .int (x3)), (4, .int (a))] []) ?_ n a0 hn
  intro a c hf hK hxx
  have hx0 : ∀ s, c = Sum.inr (Sum.inl s) → V X (0, 0) σ 54 [] [] := fun s e => hy0 s (hxx _ e).symm
  have hx1 : ∀ s, c = Sum.inr (Sum.inr s) → V X (0, 0) σ 62 [] [] := fun s e => hy1 s (hxx _ e).symm
  unfold fLX12_endsLeft_8 at hf
  refine x_iload C dX12_endsLeft_8 10 rfl 3 rfl ?_
  refine x_aload_n C dX12_endsLeft_10 11 rfl 0 rfl rfl ?_
  obtain ⟨o11, ho11, hf⟩ := x_bind hf
  obtain ⟨w11, hw11, hf⟩ := x_bind hf
  refine x_callVi C dX12_endsLeft_11 14 rfl ho11 cl11.1 rfl (cX12_rulesc hw11) kX12_rules kvX12_rules w1735 ⟨rfl, rfl⟩ ⟨Nat.le_of_ble_eq_true rfl, Nat.le_of_ble_eq_true rfl⟩ ⟨Nat.zero_le _, Nat.zero_le _⟩ rfl rfl (Nat.le_of_ble_eq_true rfl) ?_
  refine x_icmp_ge C dX12_endsLeft_14 62 (by decide) 17 rfl (fun hc => ?_) (fun hc => ?_)
  · have hf := (if_pos hc).symm.trans hf
    refine x_lv [] (lv' := []) rfl ?_
    exact hx1 _ (Option.some.inj hf).symm
  · have hf := (if_neg hc).symm.trans hf
    refine x_aload_n C dX12_endsLeft_17 18 rfl 0 rfl rfl ?_
    refine x_iload C dX12_endsLeft_18 20 rfl 3 rfl ?_
    obtain ⟨o20, ho20, hf⟩ := x_bind hf
    obtain ⟨w20, hw20, hf⟩ := x_bind hf
    refine x_callVl C dX12_endsLeft_20 23 rfl ho20 cl11.1 rfl (cX12_leftOfc hw20) kX12_leftOf kvX12_leftOf w1752 ⟨rfl, rfl⟩ ⟨Nat.le_of_ble_eq_true rfl, Nat.le_of_ble_eq_true rfl⟩ ⟨Nat.zero_le _, Nat.zero_le _⟩ rfl rfl (Nat.le_of_ble_eq_true rfl) ?_
    obtain ⟨w23, hw23, hf⟩ := x_bind hf
    refine x_callSi C dX12_endsLeft_23 26 rfl (cX12_lengthc hw23) kX12_length ksX12_length w1728 ⟨rfl, rfl⟩ ⟨Nat.le_of_ble_eq_true rfl, Nat.le_of_ble_eq_true rfl⟩ ⟨Nat.zero_le _, Nat.zero_le _⟩ rfl rfl (Nat.le_of_ble_eq_true rfl) ?_
    refine x_istore C dX12_endsLeft_26 28 rfl rfl [(5, .int (w23)), (0, .ref (x0)), (1, .long (x1)), (3, .int (x3)), (4, .int (a))] rfl ?_
    refine x_iload C dX12_endsLeft_28 30 rfl 0 rfl ?_
    refine x_iload_n C dX12_endsLeft_30 31 rfl 3 rfl rfl ?_
    refine x_icmp_gt C dX12_endsLeft_31 56 (by decide) 34 rfl (fun hc => ?_) (fun hc => ?_)
    · have hf := (if_pos hc).symm.trans hf
      obtain ⟨v56, ev56, hf⟩ := xlet_some hf
      refine x_iinc C dX12_endsLeft_56 59 rfl 4 rfl v56 ev56 rfl [(4, .int (v56)), (5, .int (w23)), (0, .ref (x0)), (1, .long (x1)), (3, .int (x3))] rfl ?_
      refine x_goto C dX12_endsLeft_59 8 (by decide) ?_
      refine x_lv [2, 3, 4, 0] (lv' := [(0, .ref (x0)), (1, .long (x1)), (3, .int (x3)), (4, .int (v56))]) rfl ?_
      exact hK _ (Option.some.inj hf).symm
    · have hf := (if_neg hc).symm.trans hf
      refine x_lload_n C dX12_endsLeft_34 35 rfl 2 rfl rfl ?_
      refine x_iload_n C dX12_endsLeft_35 36 rfl 3 rfl rfl ?_
      refine x_iload C dX12_endsLeft_36 38 rfl 0 rfl ?_
      refine x_isub C dX12_endsLeft_38 39 rfl ?_
      refine x_iload C dX12_endsLeft_39 41 rfl 0 rfl ?_
      obtain ⟨w41, hw41, hf⟩ := x_bind hf
      refine x_callSl C dX12_endsLeft_41 44 rfl (cX12_partc hw41) kX12_part ksX12_part w1725 ⟨rfl, rfl⟩ ⟨Nat.le_of_ble_eq_true rfl, Nat.le_of_ble_eq_true rfl⟩ ⟨Nat.zero_le _, Nat.zero_le _⟩ rfl rfl (Nat.le_of_ble_eq_true rfl) ?_
      refine x_aload_n C dX12_endsLeft_44 45 rfl 1 rfl rfl ?_
      refine x_iload C dX12_endsLeft_45 47 rfl 4 rfl ?_
      obtain ⟨o47, ho47, hf⟩ := x_bind hf
      obtain ⟨w47, hw47, hf⟩ := x_bind hf
      refine x_callVl C dX12_endsLeft_47 50 rfl ho47 cl11.1 rfl (cX12_leftOfc hw47) kX12_leftOf kvX12_leftOf w1752 ⟨rfl, rfl⟩ ⟨Nat.le_of_ble_eq_true rfl, Nat.le_of_ble_eq_true rfl⟩ ⟨Nat.zero_le _, Nat.zero_le _⟩ rfl rfl (Nat.le_of_ble_eq_true rfl) ?_
      refine x_lcmp C dX12_endsLeft_50 51 rfl ?_
      refine x_if_ne C dX12_endsLeft_51 56 (by decide) 54 rfl (fun hc => ?_) (fun hc => ?_)
      · have hf := (if_neg hc).symm.trans hf
        obtain ⟨v56, ev56, hf⟩ := xlet_some hf
        refine x_iinc C dX12_endsLeft_56 59 rfl 4 rfl v56 ev56 rfl [(4, .int (v56)), (5, .int (w23)), (0, .ref (x0)), (1, .long (x1)), (3, .int (x3))] rfl ?_
        refine x_goto C dX12_endsLeft_59 8 (by decide) ?_
        refine x_lv [2, 3, 4, 0] (lv' := [(0, .ref (x0)), (1, .long (x1)), (3, .int (x3)), (4, .int (v56))]) rfl ?_
        exact hK _ (Option.some.inj hf).symm
      · have hf := (if_pos hc).symm.trans hf
        refine x_lv [] (lv' := []) rfl ?_
        exact hx0 _ (Option.some.inj hf).symm
noncomputable def fX12_endsLeft (σ : St) (x0 : Nat) (x1 : Int64) : Option (Int32) :=
(fX12_length x1).bind fun w1 =>
(iterP (fLX12_endsLeft_8 σ x0 x1 w1) 0).bind fun b8 =>
(match b8 with
| .inl s8 =>
some 1
| .inr s8 =>
some 0)
set_option maxHeartbeats 4000000 in
set_option maxRecDepth 100000 in
theorem cX12_endsLeftc {l : Launch} {G : xG} {A : Nat → Prop} {σ : St} {x0 : Nat} {x1 : Int64} {c : Int32} (hf : fX12_endsLeft σ x0 x1 = some c) : Con l yX12_endsLeft (xws yX12_endsLeft cX12_endsLeft 6 (some .boolean)) rmX12_endsLeft [.ref (x0), .long (x1)] G A σ (some (.int c)) σ := by
  refine x_start rfl (Nat.le_of_ble_eq_true rfl) (fun X _ _ _ C hE0 => ?_)
  have hE : ∀ r, c = r → xE1 X (some (.int r)) σ := fun r e => e ▸ hE0
  show V X (0, 0) σ 0 [(0, .ref (x0)), (1, .long (x1))] []
  unfold fX12_endsLeft at hf
  refine x_lload_n C dX12_endsLeft_0 1 rfl 1 rfl rfl ?_
  obtain ⟨w1, hw1, hf⟩ := x_bind hf
  refine x_callSi C dX12_endsLeft_1 4 rfl (cX12_lengthc hw1) kX12_length ksX12_length w1728 ⟨rfl, rfl⟩ ⟨Nat.le_of_ble_eq_true rfl, Nat.le_of_ble_eq_true rfl⟩ ⟨Nat.zero_le _, Nat.zero_le _⟩ rfl rfl (Nat.le_of_ble_eq_true rfl) ?_
  refine x_istore_n C dX12_endsLeft_4 5 rfl rfl rfl [(3, .int (w1)), (0, .ref (x0)), (1, .long (x1))] rfl ?_
  refine x_iconst C dX12_endsLeft_5 6 rfl 0 (by decide) ?_
  refine x_istore C dX12_endsLeft_6 8 rfl rfl [(4, .int (0)), (3, .int (w1)), (0, .ref (x0)), (1, .long (x1))] rfl ?_
  obtain ⟨b8, hb8, hf⟩ := x_bind hf
  refine x_lv [2, 3, 1, 0] (lv' := [(0, .ref (x0)), (1, .long (x1)), (3, .int (w1)), (4, .int (0))]) rfl ?_
  refine lpX12_endsLeft_8 C hb8 (fun s8 e8 => ?_) (fun s8 e8 => ?_)
  · subst e8
    try dsimp only at hf
    refine x_iconst C dX12_endsLeft_54 55 rfl 1 (by decide) ?_
    exact x_zret C rfl (hE _ (Option.some.inj hf).symm) dX12_endsLeft_55
  · subst e8
    try dsimp only at hf
    refine x_iconst C dX12_endsLeft_62 63 rfl 0 (by decide) ?_
    exact x_zret C rfl (hE _ (Option.some.inj hf).symm) dX12_endsLeft_63
theorem dX12_falls_0 : decode cX12_falls 0 = .ok (.aload_n 0, 1) := by decide +kernel
theorem dX12_falls_1 : decode cX12_falls 1 = .ok (.iconst 0, 1) := by decide +kernel
theorem dX12_falls_2 : decode cX12_falls 2 = .ok (.putfield 1, 3) := by decide +kernel
theorem dX12_falls_5 : decode cX12_falls 5 = .ok (.aload_n 0, 1) := by decide +kernel
theorem dX12_falls_6 : decode cX12_falls 6 = .ok (.aload_n 0, 1) := by decide +kernel
theorem dX12_falls_7 : decode cX12_falls 7 = .ok (.iload_n 1, 1) := by decide +kernel
theorem dX12_falls_8 : decode cX12_falls 8 = .ok (.invokevirtual 422, 3) := by decide +kernel
theorem dX12_falls_11 : decode cX12_falls 11 = .ok (.iconst 1, 1) := by decide +kernel
theorem dX12_falls_12 : decode cX12_falls 12 = .ok (.invokevirtual 265, 3) := by decide +kernel
theorem dX12_falls_15 : decode cX12_falls 15 = .ok (.ifCond .eq 15, 3) := by decide +kernel
theorem dX12_falls_18 : decode cX12_falls 18 = .ok (.aload_n 0, 1) := by decide +kernel
theorem dX12_falls_19 : decode cX12_falls 19 = .ok (.iload_n 1, 1) := by decide +kernel
theorem dX12_falls_20 : decode cX12_falls 20 = .ok (.invokevirtual 381, 3) := by decide +kernel
theorem dX12_falls_23 : decode cX12_falls 23 = .ok (.ifCond .eq 7, 3) := by decide +kernel
theorem dX12_falls_26 : decode cX12_falls 26 = .ok (.iconst 1, 1) := by decide +kernel
theorem dX12_falls_27 : decode cX12_falls 27 = .ok (.goto 4, 3) := by decide +kernel
theorem dX12_falls_30 : decode cX12_falls 30 = .ok (.iconst 0, 1) := by decide +kernel
theorem dX12_falls_31 : decode cX12_falls 31 = .ok (.ireturn, 1) := by decide +kernel
abbrev rmX12_falls : Room := { frames := 5, cells := 0, slots := 0, locals := 117 }
noncomputable def fX12_falls (σ : St) (x0 : Nat) (x1 : Int32) : Option ((Int32 × St)) :=
(wrF σ x0 11 0 (.int (0))).bind fun σ2 =>
(isO σ2 x0 11).bind fun _ =>
(fX12_isRule σ2 x0 x1).bind fun w8 =>
(isO σ2 x0 11).bind fun _ =>
(fX12_right σ2 x0 w8 1).bind fun w12 =>
if w12.1 = 0 then
(some (0, w12.2))
else
((isO w12.2 x0 11).bind fun _ =>
(fX12_doesFall w12.2 x0 x1).bind fun w20 =>
if w20 = 0 then
(some (0, w12.2))
else
(some (1, w12.2)))
set_option maxHeartbeats 4000000 in
set_option maxRecDepth 100000 in
theorem cX12_fallsc {l : Launch} {G : xG} {A : Nat → Prop} {σ : St} {x0 : Nat} {x1 : Int32} {c : (Int32 × St)} (hf : fX12_falls σ x0 x1 = some c) : Con l yX12_falls (xws yX12_falls cX12_falls 2 (some .boolean)) rmX12_falls [.ref (x0), .int (x1)] G A σ (some (.int c.1)) c.2 := by
  refine x_start rfl (Nat.le_of_ble_eq_true rfl) (fun X _ _ _ C hE0 => ?_)
  have hE : ∀ r, c = r → xE1 X (some (.int r.1)) r.2 := fun r e => e ▸ hE0
  show V X (0, 0) σ 0 [(0, .ref (x0)), (1, .int (x1))] []
  unfold fX12_falls at hf
  refine x_aload_n C dX12_falls_0 1 rfl 0 rfl rfl ?_
  refine x_iconst C dX12_falls_1 2 rfl 0 (by decide) ?_
  obtain ⟨σ2, hσ2, hf⟩ := x_bind hf
  refine x_putX C dX12_falls_2 5 rfl hσ2 cl11 rfl w1443 rfl rfl rfl ?_
  refine x_aload_n C dX12_falls_5 6 rfl 0 rfl rfl ?_
  refine x_aload_n C dX12_falls_6 7 rfl 0 rfl rfl ?_
  refine x_iload_n C dX12_falls_7 8 rfl 1 rfl rfl ?_
  obtain ⟨o8, ho8, hf⟩ := x_bind hf
  obtain ⟨w8, hw8, hf⟩ := x_bind hf
  refine x_callVi C dX12_falls_8 11 rfl ho8 cl11.1 rfl (cX12_isRulec hw8) kX12_isRule kvX12_isRule w1888 ⟨rfl, rfl⟩ ⟨Nat.le_of_ble_eq_true rfl, Nat.le_of_ble_eq_true rfl⟩ ⟨Nat.zero_le _, Nat.zero_le _⟩ rfl rfl (Nat.le_of_ble_eq_true rfl) ?_
  refine x_iconst C dX12_falls_11 12 rfl 1 (by decide) ?_
  obtain ⟨o12, ho12, hf⟩ := x_bind hf
  obtain ⟨w12, hw12, hf⟩ := x_bind hf
  refine x_callVi C dX12_falls_12 15 rfl ho12 cl11.1 rfl (cX12_rightc hw12) kX12_right kvX12_right w1648 ⟨rfl, rfl⟩ ⟨Nat.le_of_ble_eq_true rfl, Nat.le_of_ble_eq_true rfl⟩ ⟨Nat.zero_le _, Nat.zero_le _⟩ rfl rfl (Nat.le_of_ble_eq_true rfl) ?_
  refine x_if_eq C dX12_falls_15 30 (by decide) 18 rfl (fun hc => ?_) (fun hc => ?_)
  · have hf := (if_pos hc).symm.trans hf
    refine x_iconst C dX12_falls_30 31 rfl 0 (by decide) ?_
    exact x_zret C rfl (hE _ (Option.some.inj hf).symm) dX12_falls_31
  · have hf := (if_neg hc).symm.trans hf
    refine x_aload_n C dX12_falls_18 19 rfl 0 rfl rfl ?_
    refine x_iload_n C dX12_falls_19 20 rfl 1 rfl rfl ?_
    obtain ⟨o20, ho20, hf⟩ := x_bind hf
    obtain ⟨w20, hw20, hf⟩ := x_bind hf
    refine x_callVi C dX12_falls_20 23 rfl ho20 cl11.1 rfl (cX12_doesFallc hw20) kX12_doesFall kvX12_doesFall w1748 ⟨rfl, rfl⟩ ⟨Nat.le_of_ble_eq_true rfl, Nat.le_of_ble_eq_true rfl⟩ ⟨Nat.zero_le _, Nat.zero_le _⟩ rfl rfl (Nat.le_of_ble_eq_true rfl) ?_
    refine x_if_eq C dX12_falls_23 30 (by decide) 26 rfl (fun hc => ?_) (fun hc => ?_)
    · have hf := (if_pos hc).symm.trans hf
      refine x_iconst C dX12_falls_30 31 rfl 0 (by decide) ?_
      exact x_zret C rfl (hE _ (Option.some.inj hf).symm) dX12_falls_31
    · have hf := (if_neg hc).symm.trans hf
      refine x_iconst C dX12_falls_26 27 rfl 1 (by decide) ?_
      refine x_goto C dX12_falls_27 31 (by decide) ?_
      exact x_zret C rfl (hE _ (Option.some.inj hf).symm) dX12_falls_31
theorem dX12_farOf_0 : decode cX12_farOf 0 = .ok (.aload_n 0, 1) := by decide +kernel
theorem dX12_farOf_1 : decode cX12_farOf 1 = .ok (.getfield 49, 3) := by decide +kernel
theorem dX12_farOf_4 : decode cX12_farOf 4 = .ok (.iconst 0, 1) := by decide +kernel
theorem dX12_farOf_5 : decode cX12_farOf 5 = .ok (.iconst 0, 1) := by decide +kernel
theorem dX12_farOf_6 : decode cX12_farOf 6 = .ok (.iastore, 1) := by decide +kernel
theorem dX12_farOf_7 : decode cX12_farOf 7 = .ok (.aload_n 0, 1) := by decide +kernel
theorem dX12_farOf_8 : decode cX12_farOf 8 = .ok (.iconst 0, 1) := by decide +kernel
theorem dX12_farOf_9 : decode cX12_farOf 9 = .ok (.lload_n 1, 1) := by decide +kernel
theorem dX12_farOf_10 : decode cX12_farOf 10 = .ok (.iconst 0, 1) := by decide +kernel
theorem dX12_farOf_11 : decode cX12_farOf 11 = .ok (.invokevirtual 336, 3) := by decide +kernel
theorem dX12_farOf_14 : decode cX12_farOf 14 = .ok (.iconst 0, 1) := by decide +kernel
theorem dX12_farOf_15 : decode cX12_farOf 15 = .ok (.istore 5, 2) := by decide +kernel
theorem dX12_farOf_17 : decode cX12_farOf 17 = .ok (.iload 5, 2) := by decide +kernel
theorem dX12_farOf_19 : decode cX12_farOf 19 = .ok (.aload_n 0, 1) := by decide +kernel
theorem dX12_farOf_20 : decode cX12_farOf 20 = .ok (.getfield 49, 3) := by decide +kernel
theorem dX12_farOf_23 : decode cX12_farOf 23 = .ok (.iconst 0, 1) := by decide +kernel
theorem dX12_farOf_24 : decode cX12_farOf 24 = .ok (.iaload, 1) := by decide +kernel
theorem dX12_farOf_25 : decode cX12_farOf 25 = .ok (.if_icmp .ge 139, 3) := by decide +kernel
theorem dX12_farOf_28 : decode cX12_farOf 28 = .ok (.aload_n 0, 1) := by decide +kernel
theorem dX12_farOf_29 : decode cX12_farOf 29 = .ok (.getfield 43, 3) := by decide +kernel
theorem dX12_farOf_32 : decode cX12_farOf 32 = .ok (.iload 5, 2) := by decide +kernel
theorem dX12_farOf_34 : decode cX12_farOf 34 = .ok (.laload, 1) := by decide +kernel
theorem dX12_farOf_35 : decode cX12_farOf 35 = .ok (.lstore 6, 2) := by decide +kernel
theorem dX12_farOf_37 : decode cX12_farOf 37 = .ok (.iconst 0, 1) := by decide +kernel
theorem dX12_farOf_38 : decode cX12_farOf 38 = .ok (.istore 8, 2) := by decide +kernel
theorem dX12_farOf_40 : decode cX12_farOf 40 = .ok (.aload_n 0, 1) := by decide +kernel
theorem dX12_farOf_41 : decode cX12_farOf 41 = .ok (.lload 6, 2) := by decide +kernel
theorem dX12_farOf_43 : decode cX12_farOf 43 = .ok (.iload 8, 2) := by decide +kernel
theorem dX12_farOf_45 : decode cX12_farOf 45 = .ok (.invokevirtual 305, 3) := by decide +kernel
theorem dX12_farOf_48 : decode cX12_farOf 48 = .ok (.ifCond .eq 27, 3) := by decide +kernel
theorem dX12_farOf_51 : decode cX12_farOf 51 = .ok (.aload_n 0, 1) := by decide +kernel
theorem dX12_farOf_52 : decode cX12_farOf 52 = .ok (.iconst 0, 1) := by decide +kernel
theorem dX12_farOf_53 : decode cX12_farOf 53 = .ok (.aload_n 0, 1) := by decide +kernel
theorem dX12_farOf_54 : decode cX12_farOf 54 = .ok (.getfield 301, 3) := by decide +kernel
theorem dX12_farOf_57 : decode cX12_farOf 57 = .ok (.aload_n 0, 1) := by decide +kernel
theorem dX12_farOf_58 : decode cX12_farOf 58 = .ok (.getfield 46, 3) := by decide +kernel
theorem dX12_farOf_61 : decode cX12_farOf 61 = .ok (.iload 5, 2) := by decide +kernel
theorem dX12_farOf_63 : decode cX12_farOf 63 = .ok (.iaload, 1) := by decide +kernel
theorem dX12_farOf_64 : decode cX12_farOf 64 = .ok (.iconst 1, 1) := by decide +kernel
theorem dX12_farOf_65 : decode cX12_farOf 65 = .ok (.iadd, 1) := by decide +kernel
theorem dX12_farOf_66 : decode cX12_farOf 66 = .ok (.invokevirtual 336, 3) := by decide +kernel
theorem dX12_farOf_69 : decode cX12_farOf 69 = .ok (.iinc 8 1, 3) := by decide +kernel
theorem dX12_farOf_72 : decode cX12_farOf 72 = .ok (.goto (-32), 3) := by decide +kernel
theorem dX12_farOf_75 : decode cX12_farOf 75 = .ok (.iconst 0, 1) := by decide +kernel
theorem dX12_farOf_76 : decode cX12_farOf 76 = .ok (.istore 8, 2) := by decide +kernel
theorem dX12_farOf_78 : decode cX12_farOf 78 = .ok (.iload 8, 2) := by decide +kernel
theorem dX12_farOf_80 : decode cX12_farOf 80 = .ok (.lload 6, 2) := by decide +kernel
theorem dX12_farOf_82 : decode cX12_farOf 82 = .ok (.invokestatic 136, 3) := by decide +kernel
theorem dX12_farOf_85 : decode cX12_farOf 85 = .ok (.if_icmp .gt 73, 3) := by decide +kernel
theorem dX12_farOf_88 : decode cX12_farOf 88 = .ok (.iconst 0, 1) := by decide +kernel
theorem dX12_farOf_89 : decode cX12_farOf 89 = .ok (.istore 9, 2) := by decide +kernel
theorem dX12_farOf_91 : decode cX12_farOf 91 = .ok (.iload 9, 2) := by decide +kernel
theorem dX12_farOf_93 : decode cX12_farOf 93 = .ok (.aload_n 0, 1) := by decide +kernel
theorem dX12_farOf_94 : decode cX12_farOf 94 = .ok (.invokevirtual 273, 3) := by decide +kernel
theorem dX12_farOf_97 : decode cX12_farOf 97 = .ok (.if_icmp .ge 55, 3) := by decide +kernel
theorem dX12_farOf_100 : decode cX12_farOf 100 = .ok (.lload 6, 2) := by decide +kernel
theorem dX12_farOf_102 : decode cX12_farOf 102 = .ok (.iload 8, 2) := by decide +kernel
theorem dX12_farOf_104 : decode cX12_farOf 104 = .ok (.aload_n 0, 1) := by decide +kernel
theorem dX12_farOf_105 : decode cX12_farOf 105 = .ok (.iload 9, 2) := by decide +kernel
theorem dX12_farOf_107 : decode cX12_farOf 107 = .ok (.invokevirtual 288, 3) := by decide +kernel
theorem dX12_farOf_110 : decode cX12_farOf 110 = .ok (.aload_n 0, 1) := by decide +kernel
theorem dX12_farOf_111 : decode cX12_farOf 111 = .ok (.iload 9, 2) := by decide +kernel
theorem dX12_farOf_113 : decode cX12_farOf 113 = .ok (.invokevirtual 285, 3) := by decide +kernel
theorem dX12_farOf_116 : decode cX12_farOf 116 = .ok (.invokestatic 291, 3) := by decide +kernel
theorem dX12_farOf_119 : decode cX12_farOf 119 = .ok (.lstore 10, 2) := by decide +kernel
theorem dX12_farOf_121 : decode cX12_farOf 121 = .ok (.lload 10, 2) := by decide +kernel
theorem dX12_farOf_123 : decode cX12_farOf 123 = .ok (.ldc2_w 276, 3) := by decide +kernel
theorem dX12_farOf_126 : decode cX12_farOf 126 = .ok (.lcmp, 1) := by decide +kernel
theorem dX12_farOf_127 : decode cX12_farOf 127 = .ok (.ifCond .eq 19, 3) := by decide +kernel
theorem dX12_farOf_130 : decode cX12_farOf 130 = .ok (.aload_n 0, 1) := by decide +kernel
theorem dX12_farOf_131 : decode cX12_farOf 131 = .ok (.iconst 0, 1) := by decide +kernel
theorem dX12_farOf_132 : decode cX12_farOf 132 = .ok (.lload 10, 2) := by decide +kernel
theorem dX12_farOf_134 : decode cX12_farOf 134 = .ok (.aload_n 0, 1) := by decide +kernel
theorem dX12_farOf_135 : decode cX12_farOf 135 = .ok (.getfield 46, 3) := by decide +kernel
theorem dX12_farOf_138 : decode cX12_farOf 138 = .ok (.iload 5, 2) := by decide +kernel
theorem dX12_farOf_140 : decode cX12_farOf 140 = .ok (.iaload, 1) := by decide +kernel
theorem dX12_farOf_141 : decode cX12_farOf 141 = .ok (.iconst 1, 1) := by decide +kernel
theorem dX12_farOf_142 : decode cX12_farOf 142 = .ok (.iadd, 1) := by decide +kernel
theorem dX12_farOf_143 : decode cX12_farOf 143 = .ok (.invokevirtual 336, 3) := by decide +kernel
theorem dX12_farOf_146 : decode cX12_farOf 146 = .ok (.iinc 9 1, 3) := by decide +kernel
theorem dX12_farOf_149 : decode cX12_farOf 149 = .ok (.goto (-58), 3) := by decide +kernel
theorem dX12_farOf_152 : decode cX12_farOf 152 = .ok (.iinc 8 1, 3) := by decide +kernel
theorem dX12_farOf_155 : decode cX12_farOf 155 = .ok (.goto (-77), 3) := by decide +kernel
theorem dX12_farOf_158 : decode cX12_farOf 158 = .ok (.iinc 5 1, 3) := by decide +kernel
theorem dX12_farOf_161 : decode cX12_farOf 161 = .ok (.goto (-144), 3) := by decide +kernel
theorem dX12_farOf_164 : decode cX12_farOf 164 = .ok (.aload_n 0, 1) := by decide +kernel
theorem dX12_farOf_165 : decode cX12_farOf 165 = .ok (.iconst 0, 1) := by decide +kernel
theorem dX12_farOf_166 : decode cX12_farOf 166 = .ok (.lload_n 3, 1) := by decide +kernel
theorem dX12_farOf_167 : decode cX12_farOf 167 = .ok (.invokevirtual 332, 3) := by decide +kernel
theorem dX12_farOf_170 : decode cX12_farOf 170 = .ok (.istore 5, 2) := by decide +kernel
theorem dX12_farOf_172 : decode cX12_farOf 172 = .ok (.iload 5, 2) := by decide +kernel
theorem dX12_farOf_174 : decode cX12_farOf 174 = .ok (.iconst (-1), 1) := by decide +kernel
theorem dX12_farOf_175 : decode cX12_farOf 175 = .ok (.if_icmp .ne 7, 3) := by decide +kernel
theorem dX12_farOf_178 : decode cX12_farOf 178 = .ok (.iconst (-1), 1) := by decide +kernel
theorem dX12_farOf_179 : decode cX12_farOf 179 = .ok (.goto 10, 3) := by decide +kernel
theorem dX12_farOf_182 : decode cX12_farOf 182 = .ok (.aload_n 0, 1) := by decide +kernel
theorem dX12_farOf_183 : decode cX12_farOf 183 = .ok (.getfield 46, 3) := by decide +kernel
theorem dX12_farOf_186 : decode cX12_farOf 186 = .ok (.iload 5, 2) := by decide +kernel
theorem dX12_farOf_188 : decode cX12_farOf 188 = .ok (.iaload, 1) := by decide +kernel
theorem dX12_farOf_189 : decode cX12_farOf 189 = .ok (.ireturn, 1) := by decide +kernel
abbrev rmX12_farOf : Room := { frames := 5, cells := 0, slots := 0, locals := 129 }
noncomputable def fLX12_farOf_40 (x0 : Nat) (x3 : Int64) (x5 : Int32) (x6 : Int64) (a : Int32 × St) : Option ((Int32 × St) ⊕ (St)) :=
(isO a.2 x0 11).bind fun _ =>
(fX12_finds a.2 x0 x6 a.1).bind fun w45 =>
if w45.1 = 0 then
(some (Sum.inr w45.2))
else
((gL w45.2 x0 11 18).bind fun v54 =>
(gR w45.2 x0 11 26).bind fun v58 =>
(aI w45.2 v58 0 x5).bind fun v63 =>
(isO w45.2 x0 11).bind fun _ =>
(fX12_reaches w45.2 x0 0 v54 (v63 + 1)).bind fun w66 =>
xlet (a.1 + 1) fun v69 =>
some (Sum.inl (v69, w66)))
set_option maxHeartbeats 4000000 in
set_option maxRecDepth 100000 in
theorem lpX12_farOf_40 {X : xX} {x0 : Nat} {x3 : Int64} {x5 : Int32} {x6 : Int64}  {a0 : Int32 × St} {b : St} (C : Ok X cX12_farOf 12 RX12 rmX12_farOf (some .int)) (hb : iterP (fLX12_farOf_40 x0 x3 x5 x6) a0 = some b) (hy0 : ∀ s, b = s → V X (0, 0) s 75 [(0, .ref (x0)), (3, .long (x3)), (5, .int (x5)), (6, .long (x6))] []) : V X (0, 0) a0.2 40 [(0, .ref (x0)), (3, .long (x3)), (5, .int (x5)), (6, .long (x6)), (8, .int (a0.1))] [] := by
  obtain ⟨n, hn⟩ := iterP_some hb
  refine x_loop (P := fun a => V X (0, 0) a.2 40 [(0, .ref (x0)), (3, .long (x3)), (5, .int (x5)), (6, .long (x6)), (8, .int (a.1))] []) ?_ n a0 hn
  intro a c hf hK hxx
  have hx0 : ∀ s, c = Sum.inr s → V X (0, 0) s 75 [(0, .ref (x0)), (3, .long (x3)), (5, .int (x5)), (6, .long (x6))] [] := fun s e => hy0 s (hxx _ e).symm
  unfold fLX12_farOf_40 at hf
  refine x_aload_n C dX12_farOf_40 41 rfl 0 rfl rfl ?_
  refine x_lload C dX12_farOf_41 43 rfl 3 rfl ?_
  refine x_iload C dX12_farOf_43 45 rfl 4 rfl ?_
  obtain ⟨o45, ho45, hf⟩ := x_bind hf
  obtain ⟨w45, hw45, hf⟩ := x_bind hf
  refine x_callVi C dX12_farOf_45 48 rfl ho45 cl11.1 rfl (cX12_findsc hw45) kX12_finds kvX12_finds w1810 ⟨rfl, rfl⟩ ⟨Nat.le_of_ble_eq_true rfl, Nat.le_of_ble_eq_true rfl⟩ ⟨Nat.zero_le _, Nat.zero_le _⟩ rfl rfl (Nat.le_of_ble_eq_true rfl) ?_
  refine x_if_eq C dX12_farOf_48 75 (by decide) 51 rfl (fun hc => ?_) (fun hc => ?_)
  · have hf := (if_pos hc).symm.trans hf
    refine x_lv [0, 1, 2, 3] (lv' := [(0, .ref (x0)), (3, .long (x3)), (5, .int (x5)), (6, .long (x6))]) rfl ?_
    exact hx0 _ (Option.some.inj hf).symm
  · have hf := (if_neg hc).symm.trans hf
    refine x_aload_n C dX12_farOf_51 52 rfl 0 rfl rfl ?_
    refine x_iconst C dX12_farOf_52 53 rfl 0 (by decide) ?_
    refine x_aload_n C dX12_farOf_53 54 rfl 0 rfl rfl ?_
    obtain ⟨v54, hv54, hf⟩ := x_bind hf
    refine x_getL C dX12_farOf_54 57 rfl hv54 cl11 rfl w1461 ?_
    refine x_aload_n C dX12_farOf_57 58 rfl 0 rfl rfl ?_
    obtain ⟨v58, hv58, hf⟩ := x_bind hf
    refine x_getR C dX12_farOf_58 61 rfl hv58 cl11 rfl w1469 ?_
    refine x_iload C dX12_farOf_61 63 rfl 2 rfl ?_
    obtain ⟨v63, hv63, hf⟩ := x_bind hf
    refine x_iaload C dX12_farOf_63 64 rfl hv63 ?_
    refine x_iconst C dX12_farOf_64 65 rfl 1 (by decide) ?_
    refine x_iadd C dX12_farOf_65 66 rfl ?_
    obtain ⟨o66, ho66, hf⟩ := x_bind hf
    obtain ⟨w66, hw66, hf⟩ := x_bind hf
    refine x_callVv C dX12_farOf_66 69 rfl ho66 cl11.1 rfl (cX12_reachesc hw66) kX12_reaches kvX12_reaches w1956 ⟨rfl, rfl⟩ ⟨Nat.le_of_ble_eq_true rfl, Nat.le_of_ble_eq_true rfl⟩ ⟨Nat.zero_le _, Nat.zero_le _⟩ rfl rfl (Nat.le_of_ble_eq_true rfl) ?_
    obtain ⟨v69, ev69, hf⟩ := xlet_some hf
    refine x_iinc C dX12_farOf_69 72 rfl 4 rfl v69 ev69 rfl [(8, .int (v69)), (0, .ref (x0)), (3, .long (x3)), (5, .int (x5)), (6, .long (x6))] rfl ?_
    refine x_goto C dX12_farOf_72 40 (by decide) ?_
    refine x_lv [1, 2, 3, 4, 0] (lv' := [(0, .ref (x0)), (3, .long (x3)), (5, .int (x5)), (6, .long (x6)), (8, .int (v69))]) rfl ?_
    exact hK _ (Option.some.inj hf).symm
noncomputable def fLX12_farOf_91 (x0 : Nat) (x3 : Int64) (x5 : Int32) (x6 : Int64) (x8 : Int32) (a : Int32 × St) : Option ((Int32 × St) ⊕ (St)) :=
(isO a.2 x0 11).bind fun _ =>
(fX12_rules a.2 x0).bind fun w94 =>
if w94 ≤ a.1 then
(some (Sum.inr a.2))
else
((isO a.2 x0 11).bind fun _ =>
(fX12_rightOf a.2 x0 a.1).bind fun w107 =>
(isO a.2 x0 11).bind fun _ =>
(fX12_leftOf a.2 x0 a.1).bind fun w113 =>
(fX12_made x6 x8 w107 w113).bind fun w116 =>
if (lg_cmp w116 (-1)) = 0 then
(xlet (a.1 + 1) fun v146 =>
some (Sum.inl (v146, a.2)))
else
((gR a.2 x0 11 26).bind fun v135 =>
(aI a.2 v135 0 x5).bind fun v140 =>
(isO a.2 x0 11).bind fun _ =>
(fX12_reaches a.2 x0 0 w116 (v140 + 1)).bind fun w143 =>
xlet (a.1 + 1) fun v146 =>
some (Sum.inl (v146, w143))))
set_option maxHeartbeats 4000000 in
set_option maxRecDepth 100000 in
theorem lpX12_farOf_91 {X : xX} {x0 : Nat} {x3 : Int64} {x5 : Int32} {x6 : Int64} {x8 : Int32}  {a0 : Int32 × St} {b : St} (C : Ok X cX12_farOf 12 RX12 rmX12_farOf (some .int)) (hb : iterP (fLX12_farOf_91 x0 x3 x5 x6 x8) a0 = some b) (hy0 : ∀ s, b = s → V X (0, 0) s 152 [(0, .ref (x0)), (3, .long (x3)), (5, .int (x5)), (6, .long (x6)), (8, .int (x8))] []) : V X (0, 0) a0.2 91 [(0, .ref (x0)), (3, .long (x3)), (5, .int (x5)), (6, .long (x6)), (8, .int (x8)), (9, .int (a0.1))] [] := by
  obtain ⟨n, hn⟩ := iterP_some hb
  refine x_loop (P := fun a => V X (0, 0) a.2 91 [(0, .ref (x0)), (3, .long (x3)), (5, .int (x5)), (6, .long (x6)), (8, .int (x8)), (9, .int (a.1))] []) ?_ n a0 hn
  intro a c hf hK hxx
  have hx0 : ∀ s, c = Sum.inr s → V X (0, 0) s 152 [(0, .ref (x0)), (3, .long (x3)), (5, .int (x5)), (6, .long (x6)), (8, .int (x8))] [] := fun s e => hy0 s (hxx _ e).symm
  unfold fLX12_farOf_91 at hf
  refine x_iload C dX12_farOf_91 93 rfl 5 rfl ?_
  refine x_aload_n C dX12_farOf_93 94 rfl 0 rfl rfl ?_
  obtain ⟨o94, ho94, hf⟩ := x_bind hf
  obtain ⟨w94, hw94, hf⟩ := x_bind hf
  refine x_callVi C dX12_farOf_94 97 rfl ho94 cl11.1 rfl (cX12_rulesc hw94) kX12_rules kvX12_rules w1735 ⟨rfl, rfl⟩ ⟨Nat.le_of_ble_eq_true rfl, Nat.le_of_ble_eq_true rfl⟩ ⟨Nat.zero_le _, Nat.zero_le _⟩ rfl rfl (Nat.le_of_ble_eq_true rfl) ?_
  refine x_icmp_ge C dX12_farOf_97 152 (by decide) 100 rfl (fun hc => ?_) (fun hc => ?_)
  · have hf := (if_pos hc).symm.trans hf
    refine x_lv [0, 1, 2, 3, 4] (lv' := [(0, .ref (x0)), (3, .long (x3)), (5, .int (x5)), (6, .long (x6)), (8, .int (x8))]) rfl ?_
    exact hx0 _ (Option.some.inj hf).symm
  · have hf := (if_neg hc).symm.trans hf
    refine x_lload C dX12_farOf_100 102 rfl 3 rfl ?_
    refine x_iload C dX12_farOf_102 104 rfl 4 rfl ?_
    refine x_aload_n C dX12_farOf_104 105 rfl 0 rfl rfl ?_
    refine x_iload C dX12_farOf_105 107 rfl 5 rfl ?_
    obtain ⟨o107, ho107, hf⟩ := x_bind hf
    obtain ⟨w107, hw107, hf⟩ := x_bind hf
    refine x_callVl C dX12_farOf_107 110 rfl ho107 cl11.1 rfl (cX12_rightOfc hw107) kX12_rightOf kvX12_rightOf w1756 ⟨rfl, rfl⟩ ⟨Nat.le_of_ble_eq_true rfl, Nat.le_of_ble_eq_true rfl⟩ ⟨Nat.zero_le _, Nat.zero_le _⟩ rfl rfl (Nat.le_of_ble_eq_true rfl) ?_
    refine x_aload_n C dX12_farOf_110 111 rfl 0 rfl rfl ?_
    refine x_iload C dX12_farOf_111 113 rfl 5 rfl ?_
    obtain ⟨o113, ho113, hf⟩ := x_bind hf
    obtain ⟨w113, hw113, hf⟩ := x_bind hf
    refine x_callVl C dX12_farOf_113 116 rfl ho113 cl11.1 rfl (cX12_leftOfc hw113) kX12_leftOf kvX12_leftOf w1752 ⟨rfl, rfl⟩ ⟨Nat.le_of_ble_eq_true rfl, Nat.le_of_ble_eq_true rfl⟩ ⟨Nat.zero_le _, Nat.zero_le _⟩ rfl rfl (Nat.le_of_ble_eq_true rfl) ?_
    obtain ⟨w116, hw116, hf⟩ := x_bind hf
    refine x_callSl C dX12_farOf_116 119 rfl (cX12_madec hw116) kX12_made ksX12_made w1792 ⟨rfl, rfl⟩ ⟨Nat.le_of_ble_eq_true rfl, Nat.le_of_ble_eq_true rfl⟩ ⟨Nat.zero_le _, Nat.zero_le _⟩ rfl rfl (Nat.le_of_ble_eq_true rfl) ?_
    refine x_lstore C dX12_farOf_119 121 rfl rfl [(10, .long (w116)), (0, .ref (x0)), (3, .long (x3)), (5, .int (x5)), (6, .long (x6)), (8, .int (x8)), (9, .int (a.1))] rfl ?_
    refine x_lload C dX12_farOf_121 123 rfl 0 rfl ?_
    refine x_ldc2 C dX12_farOf_123 126 rfl w1788 ?_
    refine x_lcmp C dX12_farOf_126 127 rfl ?_
    refine x_if_eq C dX12_farOf_127 146 (by decide) 130 rfl (fun hc => ?_) (fun hc => ?_)
    · have hf := (if_pos hc).symm.trans hf
      obtain ⟨v146, ev146, hf⟩ := xlet_some hf
      refine x_iinc C dX12_farOf_146 149 rfl 6 rfl v146 ev146 rfl [(9, .int (v146)), (10, .long (w116)), (0, .ref (x0)), (3, .long (x3)), (5, .int (x5)), (6, .long (x6)), (8, .int (x8))] rfl ?_
      refine x_goto C dX12_farOf_149 91 (by decide) ?_
      refine x_lv [2, 3, 4, 5, 6, 0] (lv' := [(0, .ref (x0)), (3, .long (x3)), (5, .int (x5)), (6, .long (x6)), (8, .int (x8)), (9, .int (v146))]) rfl ?_
      exact hK _ (Option.some.inj hf).symm
    · have hf := (if_neg hc).symm.trans hf
      refine x_aload_n C dX12_farOf_130 131 rfl 1 rfl rfl ?_
      refine x_iconst C dX12_farOf_131 132 rfl 0 (by decide) ?_
      refine x_lload C dX12_farOf_132 134 rfl 0 rfl ?_
      refine x_aload_n C dX12_farOf_134 135 rfl 1 rfl rfl ?_
      obtain ⟨v135, hv135, hf⟩ := x_bind hf
      refine x_getR C dX12_farOf_135 138 rfl hv135 cl11 rfl w1469 ?_
      refine x_iload C dX12_farOf_138 140 rfl 3 rfl ?_
      obtain ⟨v140, hv140, hf⟩ := x_bind hf
      refine x_iaload C dX12_farOf_140 141 rfl hv140 ?_
      refine x_iconst C dX12_farOf_141 142 rfl 1 (by decide) ?_
      refine x_iadd C dX12_farOf_142 143 rfl ?_
      obtain ⟨o143, ho143, hf⟩ := x_bind hf
      obtain ⟨w143, hw143, hf⟩ := x_bind hf
      refine x_callVv C dX12_farOf_143 146 rfl ho143 cl11.1 rfl (cX12_reachesc hw143) kX12_reaches kvX12_reaches w1956 ⟨rfl, rfl⟩ ⟨Nat.le_of_ble_eq_true rfl, Nat.le_of_ble_eq_true rfl⟩ ⟨Nat.zero_le _, Nat.zero_le _⟩ rfl rfl (Nat.le_of_ble_eq_true rfl) ?_
      obtain ⟨v146, ev146, hf⟩ := xlet_some hf
      refine x_iinc C dX12_farOf_146 149 rfl 6 rfl v146 ev146 rfl [(9, .int (v146)), (10, .long (w116)), (0, .ref (x0)), (3, .long (x3)), (5, .int (x5)), (6, .long (x6)), (8, .int (x8))] rfl ?_
      refine x_goto C dX12_farOf_149 91 (by decide) ?_
      refine x_lv [2, 3, 4, 5, 6, 0] (lv' := [(0, .ref (x0)), (3, .long (x3)), (5, .int (x5)), (6, .long (x6)), (8, .int (x8)), (9, .int (v146))]) rfl ?_
      exact hK _ (Option.some.inj hf).symm
noncomputable def fLX12_farOf_78 (x0 : Nat) (x3 : Int64) (x5 : Int32) (x6 : Int64) (a : Int32 × St) : Option ((Int32 × St) ⊕ (St)) :=
(fX12_length x6).bind fun w82 =>
if w82 < a.1 then
(some (Sum.inr a.2))
else
((iterP (fLX12_farOf_91 x0 x3 x5 x6 a.1) (0, a.2)).bind fun b91 =>
xlet (a.1 + 1) fun v152 =>
some (Sum.inl (v152, b91)))
set_option maxHeartbeats 4000000 in
set_option maxRecDepth 100000 in
theorem lpX12_farOf_78 {X : xX} {x0 : Nat} {x3 : Int64} {x5 : Int32} {x6 : Int64}  {a0 : Int32 × St} {b : St} (C : Ok X cX12_farOf 12 RX12 rmX12_farOf (some .int)) (hb : iterP (fLX12_farOf_78 x0 x3 x5 x6) a0 = some b) (hy0 : ∀ s, b = s → V X (0, 0) s 158 [(0, .ref (x0)), (3, .long (x3)), (5, .int (x5))] []) : V X (0, 0) a0.2 78 [(0, .ref (x0)), (3, .long (x3)), (5, .int (x5)), (6, .long (x6)), (8, .int (a0.1))] [] := by
  obtain ⟨n, hn⟩ := iterP_some hb
  refine x_loop (P := fun a => V X (0, 0) a.2 78 [(0, .ref (x0)), (3, .long (x3)), (5, .int (x5)), (6, .long (x6)), (8, .int (a.1))] []) ?_ n a0 hn
  intro a c hf hK hxx
  have hx0 : ∀ s, c = Sum.inr s → V X (0, 0) s 158 [(0, .ref (x0)), (3, .long (x3)), (5, .int (x5))] [] := fun s e => hy0 s (hxx _ e).symm
  unfold fLX12_farOf_78 at hf
  refine x_iload C dX12_farOf_78 80 rfl 4 rfl ?_
  refine x_lload C dX12_farOf_80 82 rfl 3 rfl ?_
  obtain ⟨w82, hw82, hf⟩ := x_bind hf
  refine x_callSi C dX12_farOf_82 85 rfl (cX12_lengthc hw82) kX12_length ksX12_length w1728 ⟨rfl, rfl⟩ ⟨Nat.le_of_ble_eq_true rfl, Nat.le_of_ble_eq_true rfl⟩ ⟨Nat.zero_le _, Nat.zero_le _⟩ rfl rfl (Nat.le_of_ble_eq_true rfl) ?_
  refine x_icmp_gt C dX12_farOf_85 158 (by decide) 88 rfl (fun hc => ?_) (fun hc => ?_)
  · have hf := (if_pos hc).symm.trans hf
    refine x_lv [0, 1, 2] (lv' := [(0, .ref (x0)), (3, .long (x3)), (5, .int (x5))]) rfl ?_
    exact hx0 _ (Option.some.inj hf).symm
  · have hf := (if_neg hc).symm.trans hf
    refine x_iconst C dX12_farOf_88 89 rfl 0 (by decide) ?_
    refine x_istore C dX12_farOf_89 91 rfl rfl [(9, .int (0)), (0, .ref (x0)), (3, .long (x3)), (5, .int (x5)), (6, .long (x6)), (8, .int (a.1))] rfl ?_
    obtain ⟨b91, hb91, hf⟩ := x_bind hf
    refine x_lv [1, 2, 3, 4, 5, 0] (lv' := [(0, .ref (x0)), (3, .long (x3)), (5, .int (x5)), (6, .long (x6)), (8, .int (a.1)), (9, .int (0))]) rfl ?_
    refine lpX12_farOf_91 C hb91 (fun s91 e91 => ?_)
    subst e91
    obtain ⟨v152, ev152, hf⟩ := xlet_some hf
    refine x_iinc C dX12_farOf_152 155 rfl 4 rfl v152 ev152 rfl [(8, .int (v152)), (0, .ref (x0)), (3, .long (x3)), (5, .int (x5)), (6, .long (x6))] rfl ?_
    refine x_goto C dX12_farOf_155 78 (by decide) ?_
    refine x_lv [1, 2, 3, 4, 0] (lv' := [(0, .ref (x0)), (3, .long (x3)), (5, .int (x5)), (6, .long (x6)), (8, .int (v152))]) rfl ?_
    exact hK _ (Option.some.inj hf).symm
noncomputable def fLX12_farOf_17 (x0 : Nat) (x3 : Int64) (a : Int32 × St) : Option ((Int32 × St) ⊕ (St)) :=
(gR a.2 x0 11 27).bind fun v20 =>
(aI a.2 v20 0 0).bind fun v24 =>
if v24 ≤ a.1 then
(some (Sum.inr a.2))
else
((gR a.2 x0 11 25).bind fun v29 =>
(aL a.2 v29 a.1).bind fun v34 =>
(iterP (fLX12_farOf_40 x0 x3 a.1 v34) (0, a.2)).bind fun b40 =>
(iterP (fLX12_farOf_78 x0 x3 a.1 v34) (0, b40)).bind fun b78 =>
xlet (a.1 + 1) fun v158 =>
some (Sum.inl (v158, b78)))
set_option maxHeartbeats 4000000 in
set_option maxRecDepth 100000 in
theorem lpX12_farOf_17 {X : xX} {x0 : Nat} {x3 : Int64}  {a0 : Int32 × St} {b : St} (C : Ok X cX12_farOf 12 RX12 rmX12_farOf (some .int)) (hb : iterP (fLX12_farOf_17 x0 x3) a0 = some b) (hy0 : ∀ s, b = s → V X (0, 0) s 164 [(0, .ref (x0)), (3, .long (x3))] []) : V X (0, 0) a0.2 17 [(0, .ref (x0)), (3, .long (x3)), (5, .int (a0.1))] [] := by
  obtain ⟨n, hn⟩ := iterP_some hb
  refine x_loop (P := fun a => V X (0, 0) a.2 17 [(0, .ref (x0)), (3, .long (x3)), (5, .int (a.1))] []) ?_ n a0 hn
  intro a c hf hK hxx
  have hx0 : ∀ s, c = Sum.inr s → V X (0, 0) s 164 [(0, .ref (x0)), (3, .long (x3))] [] := fun s e => hy0 s (hxx _ e).symm
  unfold fLX12_farOf_17 at hf
  refine x_iload C dX12_farOf_17 19 rfl 2 rfl ?_
  refine x_aload_n C dX12_farOf_19 20 rfl 0 rfl rfl ?_
  obtain ⟨v20, hv20, hf⟩ := x_bind hf
  refine x_getR C dX12_farOf_20 23 rfl hv20 cl11 rfl w1470 ?_
  refine x_iconst C dX12_farOf_23 24 rfl 0 (by decide) ?_
  obtain ⟨v24, hv24, hf⟩ := x_bind hf
  refine x_iaload C dX12_farOf_24 25 rfl hv24 ?_
  refine x_icmp_ge C dX12_farOf_25 164 (by decide) 28 rfl (fun hc => ?_) (fun hc => ?_)
  · have hf := (if_pos hc).symm.trans hf
    refine x_lv [0, 1] (lv' := [(0, .ref (x0)), (3, .long (x3))]) rfl ?_
    exact hx0 _ (Option.some.inj hf).symm
  · have hf := (if_neg hc).symm.trans hf
    refine x_aload_n C dX12_farOf_28 29 rfl 0 rfl rfl ?_
    obtain ⟨v29, hv29, hf⟩ := x_bind hf
    refine x_getR C dX12_farOf_29 32 rfl hv29 cl11 rfl w1468 ?_
    refine x_iload C dX12_farOf_32 34 rfl 2 rfl ?_
    obtain ⟨v34, hv34, hf⟩ := x_bind hf
    refine x_laload C dX12_farOf_34 35 rfl hv34 ?_
    refine x_lstore C dX12_farOf_35 37 rfl rfl [(6, .long (v34)), (0, .ref (x0)), (3, .long (x3)), (5, .int (a.1))] rfl ?_
    refine x_iconst C dX12_farOf_37 38 rfl 0 (by decide) ?_
    refine x_istore C dX12_farOf_38 40 rfl rfl [(8, .int (0)), (6, .long (v34)), (0, .ref (x0)), (3, .long (x3)), (5, .int (a.1))] rfl ?_
    obtain ⟨b40, hb40, hf⟩ := x_bind hf
    refine x_lv [2, 3, 4, 1, 0] (lv' := [(0, .ref (x0)), (3, .long (x3)), (5, .int (a.1)), (6, .long (v34)), (8, .int (0))]) rfl ?_
    refine lpX12_farOf_40 C hb40 (fun s40 e40 => ?_)
    subst e40
    refine x_iconst C dX12_farOf_75 76 rfl 0 (by decide) ?_
    refine x_istore C dX12_farOf_76 78 rfl rfl [(8, .int (0)), (0, .ref (x0)), (3, .long (x3)), (5, .int (a.1)), (6, .long (v34))] rfl ?_
    obtain ⟨b78, hb78, hf⟩ := x_bind hf
    refine x_lv [1, 2, 3, 4, 0] (lv' := [(0, .ref (x0)), (3, .long (x3)), (5, .int (a.1)), (6, .long (v34)), (8, .int (0))]) rfl ?_
    refine lpX12_farOf_78 C hb78 (fun s78 e78 => ?_)
    subst e78
    obtain ⟨v158, ev158, hf⟩ := xlet_some hf
    refine x_iinc C dX12_farOf_158 161 rfl 2 rfl v158 ev158 rfl [(5, .int (v158)), (0, .ref (x0)), (3, .long (x3))] rfl ?_
    refine x_goto C dX12_farOf_161 17 (by decide) ?_
    refine x_lv [1, 2, 0] (lv' := [(0, .ref (x0)), (3, .long (x3)), (5, .int (v158))]) rfl ?_
    exact hK _ (Option.some.inj hf).symm
noncomputable def fX12_farOf (σ : St) (x0 : Nat) (x1 : Int64) (x3 : Int64) : Option ((Int32 × St)) :=
(gR σ x0 11 27).bind fun v1 =>
(sI σ v1 0 0).bind fun σ6 =>
(isO σ6 x0 11).bind fun _ =>
(fX12_reaches σ6 x0 0 x1 0).bind fun w11 =>
(iterP (fLX12_farOf_17 x0 x3) (0, w11)).bind fun b17 =>
(isO b17 x0 11).bind fun _ =>
(fX12_placeIn b17 x0 0 x3).bind fun w167 =>
if w167 = (((-1) : Int32)) then
(some ((-1), b17))
else
((gR b17 x0 11 26).bind fun v183 =>
(aI b17 v183 0 w167).bind fun v188 =>
some (v188, b17))
set_option maxHeartbeats 4000000 in
set_option maxRecDepth 100000 in
theorem cX12_farOfc {l : Launch} {G : xG} {A : Nat → Prop} {σ : St} {x0 : Nat} {x1 : Int64} {x3 : Int64} {c : (Int32 × St)} (hf : fX12_farOf σ x0 x1 x3 = some c) : Con l yX12_farOf (xws yX12_farOf cX12_farOf 12 (some .int)) rmX12_farOf [.ref (x0), .long (x1), .long (x3)] G A σ (some (.int c.1)) c.2 := by
  refine x_start rfl (Nat.le_of_ble_eq_true rfl) (fun X _ _ _ C hE0 => ?_)
  have hE : ∀ r, c = r → xE1 X (some (.int r.1)) r.2 := fun r e => e ▸ hE0
  show V X (0, 0) σ 0 [(0, .ref (x0)), (1, .long (x1)), (3, .long (x3))] []
  unfold fX12_farOf at hf
  refine x_aload_n C dX12_farOf_0 1 rfl 0 rfl rfl ?_
  obtain ⟨v1, hv1, hf⟩ := x_bind hf
  refine x_getR C dX12_farOf_1 4 rfl hv1 cl11 rfl w1470 ?_
  refine x_iconst C dX12_farOf_4 5 rfl 0 (by decide) ?_
  refine x_iconst C dX12_farOf_5 6 rfl 0 (by decide) ?_
  obtain ⟨σ6, hσ6, hf⟩ := x_bind hf
  refine x_iastore C dX12_farOf_6 7 rfl hσ6 ?_
  refine x_aload_n C dX12_farOf_7 8 rfl 0 rfl rfl ?_
  refine x_iconst C dX12_farOf_8 9 rfl 0 (by decide) ?_
  refine x_lload_n C dX12_farOf_9 10 rfl 1 rfl rfl ?_
  refine x_iconst C dX12_farOf_10 11 rfl 0 (by decide) ?_
  obtain ⟨o11, ho11, hf⟩ := x_bind hf
  obtain ⟨w11, hw11, hf⟩ := x_bind hf
  refine x_callVv C dX12_farOf_11 14 rfl ho11 cl11.1 rfl (cX12_reachesc hw11) kX12_reaches kvX12_reaches w1956 ⟨rfl, rfl⟩ ⟨Nat.le_of_ble_eq_true rfl, Nat.le_of_ble_eq_true rfl⟩ ⟨Nat.zero_le _, Nat.zero_le _⟩ rfl rfl (Nat.le_of_ble_eq_true rfl) ?_
  refine x_iconst C dX12_farOf_14 15 rfl 0 (by decide) ?_
  refine x_istore C dX12_farOf_15 17 rfl rfl [(5, .int (0)), (0, .ref (x0)), (1, .long (x1)), (3, .long (x3))] rfl ?_
  obtain ⟨b17, hb17, hf⟩ := x_bind hf
  refine x_lv [1, 3, 0] (lv' := [(0, .ref (x0)), (3, .long (x3)), (5, .int (0))]) rfl ?_
  refine lpX12_farOf_17 C hb17 (fun s17 e17 => ?_)
  subst e17
  refine x_aload_n C dX12_farOf_164 165 rfl 0 rfl rfl ?_
  refine x_iconst C dX12_farOf_165 166 rfl 0 (by decide) ?_
  refine x_lload_n C dX12_farOf_166 167 rfl 1 rfl rfl ?_
  obtain ⟨o167, ho167, hf⟩ := x_bind hf
  obtain ⟨w167, hw167, hf⟩ := x_bind hf
  refine x_callVi C dX12_farOf_167 170 rfl ho167 cl11.1 rfl (cX12_placeInc hw167) kX12_placeIn kvX12_placeIn w1960 ⟨rfl, rfl⟩ ⟨Nat.le_of_ble_eq_true rfl, Nat.le_of_ble_eq_true rfl⟩ ⟨Nat.zero_le _, Nat.zero_le _⟩ rfl rfl (Nat.le_of_ble_eq_true rfl) ?_
  refine x_istore C dX12_farOf_170 172 rfl rfl [(5, .int (w167)), (0, .ref (x0)), (3, .long (x3))] rfl ?_
  refine x_iload C dX12_farOf_172 174 rfl 0 rfl ?_
  refine x_iconst C dX12_farOf_174 175 rfl (-1) (by decide) ?_
  refine x_icmp_ne C dX12_farOf_175 182 (by decide) 178 rfl (fun hc => ?_) (fun hc => ?_)
  · have hf := (if_neg hc).symm.trans hf
    refine x_aload_n C dX12_farOf_182 183 rfl 1 rfl rfl ?_
    obtain ⟨v183, hv183, hf⟩ := x_bind hf
    refine x_getR C dX12_farOf_183 186 rfl hv183 cl11 rfl w1469 ?_
    refine x_iload C dX12_farOf_186 188 rfl 0 rfl ?_
    obtain ⟨v188, hv188, hf⟩ := x_bind hf
    refine x_iaload C dX12_farOf_188 189 rfl hv188 ?_
    exact x_iret C (hE _ (Option.some.inj hf).symm) dX12_farOf_189
  · have hf := (if_pos hc).symm.trans hf
    refine x_iconst C dX12_farOf_178 179 rfl (-1) (by decide) ?_
    refine x_goto C dX12_farOf_179 189 (by decide) ?_
    exact x_iret C (hE _ (Option.some.inj hf).symm) dX12_farOf_189
theorem dX12_far_0 : decode cX12_far 0 = .ok (.aload_n 0, 1) := by decide +kernel
theorem dX12_far_1 : decode cX12_far 1 = .ok (.iconst 0, 1) := by decide +kernel
theorem dX12_far_2 : decode cX12_far 2 = .ok (.putfield 1, 3) := by decide +kernel
theorem dX12_far_5 : decode cX12_far 5 = .ok (.aload_n 0, 1) := by decide +kernel
theorem dX12_far_6 : decode cX12_far 6 = .ok (.iload_n 1, 1) := by decide +kernel
theorem dX12_far_7 : decode cX12_far 7 = .ok (.invokestatic 452, 3) := by decide +kernel
theorem dX12_far_10 : decode cX12_far 10 = .ok (.ifCond .eq 14, 3) := by decide +kernel
theorem dX12_far_13 : decode cX12_far 13 = .ok (.iload_n 2, 1) := by decide +kernel
theorem dX12_far_14 : decode cX12_far 14 = .ok (.invokestatic 452, 3) := by decide +kernel
theorem dX12_far_17 : decode cX12_far 17 = .ok (.ifCond .eq 7, 3) := by decide +kernel
theorem dX12_far_20 : decode cX12_far 20 = .ok (.iconst 1, 1) := by decide +kernel
theorem dX12_far_21 : decode cX12_far 21 = .ok (.goto 4, 3) := by decide +kernel
theorem dX12_far_24 : decode cX12_far 24 = .ok (.iconst 0, 1) := by decide +kernel
theorem dX12_far_25 : decode cX12_far 25 = .ok (.iconst 1, 1) := by decide +kernel
theorem dX12_far_26 : decode cX12_far 26 = .ok (.invokevirtual 265, 3) := by decide +kernel
theorem dX12_far_29 : decode cX12_far 29 = .ok (.ifCond .eq 20, 3) := by decide +kernel
theorem dX12_far_32 : decode cX12_far 32 = .ok (.aload_n 0, 1) := by decide +kernel
theorem dX12_far_33 : decode cX12_far 33 = .ok (.aload_n 0, 1) := by decide +kernel
theorem dX12_far_34 : decode cX12_far 34 = .ok (.iload_n 1, 1) := by decide +kernel
theorem dX12_far_35 : decode cX12_far 35 = .ok (.invokevirtual 402, 3) := by decide +kernel
theorem dX12_far_38 : decode cX12_far 38 = .ok (.aload_n 0, 1) := by decide +kernel
theorem dX12_far_39 : decode cX12_far 39 = .ok (.iload_n 2, 1) := by decide +kernel
theorem dX12_far_40 : decode cX12_far 40 = .ok (.invokevirtual 402, 3) := by decide +kernel
theorem dX12_far_43 : decode cX12_far 43 = .ok (.invokevirtual 493, 3) := by decide +kernel
theorem dX12_far_46 : decode cX12_far 46 = .ok (.goto 4, 3) := by decide +kernel
theorem dX12_far_49 : decode cX12_far 49 = .ok (.iconst 0, 1) := by decide +kernel
theorem dX12_far_50 : decode cX12_far 50 = .ok (.ireturn, 1) := by decide +kernel
abbrev rmX12_far : Room := { frames := 6, cells := 0, slots := 0, locals := 160 }
noncomputable def fJX12_far_m_25 (σ : St) (x0 : Nat) (x1 : Int32) (x2 : Int32) (t0 : Int32) (t1 : Nat) : Option ((Int32 × St)) :=
(isO σ t1 11).bind fun _ =>
(fX12_right σ t1 t0 1).bind fun w26 =>
if w26.1 = 0 then
(some (0, w26.2))
else
((isO w26.2 x0 11).bind fun _ =>
(fX12_wordAt w26.2 x0 x1).bind fun w35 =>
(isO w26.2 x0 11).bind fun _ =>
(fX12_wordAt w26.2 x0 x2).bind fun w40 =>
(isO w26.2 x0 11).bind fun _ =>
(fX12_farOf w26.2 x0 w35 w40).bind fun w43 =>
some (w43.1, w43.2))
set_option maxHeartbeats 4000000 in
set_option maxRecDepth 100000 in
theorem jnX12_far_m_25 {X : xX} {σ : St} {x0 : Nat} {x1 : Int32} {x2 : Int32} {t0 : Int32} {t1 : Nat}  {c : (Int32 × St)} (C : Ok X cX12_far 3 RX12 rmX12_far (some .int)) (hf : fJX12_far_m_25 σ x0 x1 x2 t0 t1 = some c) (hE : ∀ r, c = r → xE1 X (some (.int r.1)) r.2) : V X (0, 0) σ 25 [(0, .ref (x0)), (1, .int (x1)), (2, .int (x2))] [.int (t0), .ref (t1)] := by
  unfold fJX12_far_m_25 at hf
  refine x_iconst C dX12_far_25 26 rfl 1 (by decide) ?_
  obtain ⟨o26, ho26, hf⟩ := x_bind hf
  obtain ⟨w26, hw26, hf⟩ := x_bind hf
  refine x_callVi C dX12_far_26 29 rfl ho26 cl11.1 rfl (cX12_rightc hw26) kX12_right kvX12_right w1648 ⟨rfl, rfl⟩ ⟨Nat.le_of_ble_eq_true rfl, Nat.le_of_ble_eq_true rfl⟩ ⟨Nat.zero_le _, Nat.zero_le _⟩ rfl rfl (Nat.le_of_ble_eq_true rfl) ?_
  refine x_if_eq C dX12_far_29 49 (by decide) 32 rfl (fun hc => ?_) (fun hc => ?_)
  · have hf := (if_pos hc).symm.trans hf
    refine x_iconst C dX12_far_49 50 rfl 0 (by decide) ?_
    exact x_iret C (hE _ (Option.some.inj hf).symm) dX12_far_50
  · have hf := (if_neg hc).symm.trans hf
    refine x_aload_n C dX12_far_32 33 rfl 0 rfl rfl ?_
    refine x_aload_n C dX12_far_33 34 rfl 0 rfl rfl ?_
    refine x_iload_n C dX12_far_34 35 rfl 1 rfl rfl ?_
    obtain ⟨o35, ho35, hf⟩ := x_bind hf
    obtain ⟨w35, hw35, hf⟩ := x_bind hf
    refine x_callVl C dX12_far_35 38 rfl ho35 cl11.1 rfl (cX12_wordAtc hw35) kX12_wordAt kvX12_wordAt w1845 ⟨rfl, rfl⟩ ⟨Nat.le_of_ble_eq_true rfl, Nat.le_of_ble_eq_true rfl⟩ ⟨Nat.zero_le _, Nat.zero_le _⟩ rfl rfl (Nat.le_of_ble_eq_true rfl) ?_
    refine x_aload_n C dX12_far_38 39 rfl 0 rfl rfl ?_
    refine x_iload_n C dX12_far_39 40 rfl 2 rfl rfl ?_
    obtain ⟨o40, ho40, hf⟩ := x_bind hf
    obtain ⟨w40, hw40, hf⟩ := x_bind hf
    refine x_callVl C dX12_far_40 43 rfl ho40 cl11.1 rfl (cX12_wordAtc hw40) kX12_wordAt kvX12_wordAt w1845 ⟨rfl, rfl⟩ ⟨Nat.le_of_ble_eq_true rfl, Nat.le_of_ble_eq_true rfl⟩ ⟨Nat.zero_le _, Nat.zero_le _⟩ rfl rfl (Nat.le_of_ble_eq_true rfl) ?_
    obtain ⟨o43, ho43, hf⟩ := x_bind hf
    obtain ⟨w43, hw43, hf⟩ := x_bind hf
    refine x_callVi C dX12_far_43 46 rfl ho43 cl11.1 rfl (cX12_farOfc hw43) kX12_farOf kvX12_farOf w2073 ⟨rfl, rfl⟩ ⟨Nat.le_of_ble_eq_true rfl, Nat.le_of_ble_eq_true rfl⟩ ⟨Nat.zero_le _, Nat.zero_le _⟩ rfl rfl (Nat.le_of_ble_eq_true rfl) ?_
    refine x_goto C dX12_far_46 50 (by decide) ?_
    exact x_iret C (hE _ (Option.some.inj hf).symm) dX12_far_50
noncomputable def fJX12_far_m_24 (σ : St) (x0 : Nat) (x1 : Int32) (x2 : Int32) (t0 : Nat) : Option ((Int32 × St)) :=
fJX12_far_m_25 σ x0 x1 x2 0 t0
set_option maxHeartbeats 4000000 in
set_option maxRecDepth 100000 in
theorem jnX12_far_m_24 {X : xX} {σ : St} {x0 : Nat} {x1 : Int32} {x2 : Int32} {t0 : Nat}  {c : (Int32 × St)} (C : Ok X cX12_far 3 RX12 rmX12_far (some .int)) (hf : fJX12_far_m_24 σ x0 x1 x2 t0 = some c) (hE : ∀ r, c = r → xE1 X (some (.int r.1)) r.2) : V X (0, 0) σ 24 [(0, .ref (x0)), (1, .int (x1)), (2, .int (x2))] [.ref (t0)] := by
  unfold fJX12_far_m_24 at hf
  refine x_iconst C dX12_far_24 25 rfl 0 (by decide) ?_
  exact jnX12_far_m_25 C hf hE
noncomputable def fX12_far (σ : St) (x0 : Nat) (x1 : Int32) (x2 : Int32) : Option ((Int32 × St)) :=
(wrF σ x0 11 0 (.int (0))).bind fun σ2 =>
(fX12_isPlace x1).bind fun w7 =>
if w7 = 0 then
(fJX12_far_m_24 σ2 x0 x1 x2 x0)
else
((fX12_isPlace x2).bind fun w14 =>
if w14 = 0 then
(fJX12_far_m_24 σ2 x0 x1 x2 x0)
else
(fJX12_far_m_25 σ2 x0 x1 x2 1 x0))
set_option maxHeartbeats 4000000 in
set_option maxRecDepth 100000 in
theorem cX12_farc {l : Launch} {G : xG} {A : Nat → Prop} {σ : St} {x0 : Nat} {x1 : Int32} {x2 : Int32} {c : (Int32 × St)} (hf : fX12_far σ x0 x1 x2 = some c) : Con l yX12_far (xws yX12_far cX12_far 3 (some .int)) rmX12_far [.ref (x0), .int (x1), .int (x2)] G A σ (some (.int c.1)) c.2 := by
  refine x_start rfl (Nat.le_of_ble_eq_true rfl) (fun X _ _ _ C hE0 => ?_)
  have hE : ∀ r, c = r → xE1 X (some (.int r.1)) r.2 := fun r e => e ▸ hE0
  show V X (0, 0) σ 0 [(0, .ref (x0)), (1, .int (x1)), (2, .int (x2))] []
  unfold fX12_far at hf
  refine x_aload_n C dX12_far_0 1 rfl 0 rfl rfl ?_
  refine x_iconst C dX12_far_1 2 rfl 0 (by decide) ?_
  obtain ⟨σ2, hσ2, hf⟩ := x_bind hf
  refine x_putX C dX12_far_2 5 rfl hσ2 cl11 rfl w1443 rfl rfl rfl ?_
  refine x_aload_n C dX12_far_5 6 rfl 0 rfl rfl ?_
  refine x_iload_n C dX12_far_6 7 rfl 1 rfl rfl ?_
  obtain ⟨w7, hw7, hf⟩ := x_bind hf
  refine x_callSi C dX12_far_7 10 rfl (cX12_isPlacec hw7) kX12_isPlace ksX12_isPlace w1942 ⟨rfl, rfl⟩ ⟨Nat.le_of_ble_eq_true rfl, Nat.le_of_ble_eq_true rfl⟩ ⟨Nat.zero_le _, Nat.zero_le _⟩ rfl rfl (Nat.le_of_ble_eq_true rfl) ?_
  refine x_if_eq C dX12_far_10 24 (by decide) 13 rfl (fun hc => ?_) (fun hc => ?_)
  · have hf := (if_pos hc).symm.trans hf
    exact jnX12_far_m_24 C hf hE
  · have hf := (if_neg hc).symm.trans hf
    refine x_iload_n C dX12_far_13 14 rfl 2 rfl rfl ?_
    obtain ⟨w14, hw14, hf⟩ := x_bind hf
    refine x_callSi C dX12_far_14 17 rfl (cX12_isPlacec hw14) kX12_isPlace ksX12_isPlace w1942 ⟨rfl, rfl⟩ ⟨Nat.le_of_ble_eq_true rfl, Nat.le_of_ble_eq_true rfl⟩ ⟨Nat.zero_le _, Nat.zero_le _⟩ rfl rfl (Nat.le_of_ble_eq_true rfl) ?_
    refine x_if_eq C dX12_far_17 24 (by decide) 20 rfl (fun hc => ?_) (fun hc => ?_)
    · have hf := (if_pos hc).symm.trans hf
      exact jnX12_far_m_24 C hf hE
    · have hf := (if_neg hc).symm.trans hf
      refine x_iconst C dX12_far_20 21 rfl 1 (by decide) ?_
      refine x_goto C dX12_far_21 25 (by decide) ?_
      exact jnX12_far_m_25 C hf hE
theorem dX12_fault_0 : decode cX12_fault 0 = .ok (.aload_n 0, 1) := by decide +kernel
theorem dX12_fault_1 : decode cX12_fault 1 = .ok (.iconst 0, 1) := by decide +kernel
theorem dX12_fault_2 : decode cX12_fault 2 = .ok (.putfield 1, 3) := by decide +kernel
theorem dX12_fault_5 : decode cX12_fault 5 = .ok (.aload_n 0, 1) := by decide +kernel
theorem dX12_fault_6 : decode cX12_fault 6 = .ok (.getfield 27, 3) := by decide +kernel
theorem dX12_fault_9 : decode cX12_fault 9 = .ok (.ireturn, 1) := by decide +kernel
abbrev rmX12_fault : Room := { frames := 0, cells := 0, slots := 0, locals := 0 }
noncomputable def fX12_fault (σ : St) (x0 : Nat) : Option ((Int32 × St)) :=
(wrF σ x0 11 0 (.int (0))).bind fun σ2 =>
(gI σ2 x0 11 14).bind fun v6 =>
some (v6, σ2)
set_option maxHeartbeats 4000000 in
set_option maxRecDepth 100000 in
theorem cX12_faultc {l : Launch} {G : xG} {A : Nat → Prop} {σ : St} {x0 : Nat} {c : (Int32 × St)} (hf : fX12_fault σ x0 = some c) : Con l yX12_fault (xws yX12_fault cX12_fault 1 (some .int)) rmX12_fault [.ref (x0)] G A σ (some (.int c.1)) c.2 := by
  refine x_start rfl (Nat.le_of_ble_eq_true rfl) (fun X _ _ _ C hE0 => ?_)
  have hE : ∀ r, c = r → xE1 X (some (.int r.1)) r.2 := fun r e => e ▸ hE0
  show V X (0, 0) σ 0 [(0, .ref (x0))] []
  unfold fX12_fault at hf
  refine x_aload_n C dX12_fault_0 1 rfl 0 rfl rfl ?_
  refine x_iconst C dX12_fault_1 2 rfl 0 (by decide) ?_
  obtain ⟨σ2, hσ2, hf⟩ := x_bind hf
  refine x_putX C dX12_fault_2 5 rfl hσ2 cl11 rfl w1443 rfl rfl rfl ?_
  refine x_aload_n C dX12_fault_5 6 rfl 0 rfl rfl ?_
  obtain ⟨v6, hv6, hf⟩ := x_bind hf
  refine x_getI C dX12_fault_6 9 rfl hv6 cl11 rfl w1457 ?_
  exact x_iret C (hE _ (Option.some.inj hf).symm) dX12_fault_9
theorem dX12_feed_0 : decode cX12_feed 0 = .ok (.aload_n 0, 1) := by decide +kernel
theorem dX12_feed_1 : decode cX12_feed 1 = .ok (.iconst 0, 1) := by decide +kernel
theorem dX12_feed_2 : decode cX12_feed 2 = .ok (.putfield 1, 3) := by decide +kernel
theorem dX12_feed_5 : decode cX12_feed 5 = .ok (.aload_n 0, 1) := by decide +kernel
theorem dX12_feed_6 : decode cX12_feed 6 = .ok (.getfield 168, 3) := by decide +kernel
theorem dX12_feed_9 : decode cX12_feed 9 = .ok (.bipush 20, 2) := by decide +kernel
theorem dX12_feed_11 : decode cX12_feed 11 = .ok (.iadd, 1) := by decide +kernel
theorem dX12_feed_12 : decode cX12_feed 12 = .ok (.sipush 300, 3) := by decide +kernel
theorem dX12_feed_15 : decode cX12_feed 15 = .ok (.if_icmp .le 5, 3) := by decide +kernel
theorem dX12_feed_18 : decode cX12_feed 18 = .ok (.iconst (-1), 1) := by decide +kernel
theorem dX12_feed_19 : decode cX12_feed 19 = .ok (.ireturn, 1) := by decide +kernel
theorem dX12_feed_20 : decode cX12_feed 20 = .ok (.aload_n 0, 1) := by decide +kernel
theorem dX12_feed_21 : decode cX12_feed 21 = .ok (.iload_n 1, 1) := by decide +kernel
theorem dX12_feed_22 : decode cX12_feed 22 = .ok (.invokevirtual 171, 3) := by decide +kernel
theorem dX12_feed_25 : decode cX12_feed 25 = .ok (.aload_n 0, 1) := by decide +kernel
theorem dX12_feed_26 : decode cX12_feed 26 = .ok (.iload_n 2, 1) := by decide +kernel
theorem dX12_feed_27 : decode cX12_feed 27 = .ok (.invokevirtual 171, 3) := by decide +kernel
theorem dX12_feed_30 : decode cX12_feed 30 = .ok (.aload_n 0, 1) := by decide +kernel
theorem dX12_feed_31 : decode cX12_feed 31 = .ok (.iload_n 3, 1) := by decide +kernel
theorem dX12_feed_32 : decode cX12_feed 32 = .ok (.invokevirtual 171, 3) := by decide +kernel
theorem dX12_feed_35 : decode cX12_feed 35 = .ok (.aload_n 0, 1) := by decide +kernel
theorem dX12_feed_36 : decode cX12_feed 36 = .ok (.iload 4, 2) := by decide +kernel
theorem dX12_feed_38 : decode cX12_feed 38 = .ok (.invokevirtual 171, 3) := by decide +kernel
theorem dX12_feed_41 : decode cX12_feed 41 = .ok (.aload_n 0, 1) := by decide +kernel
theorem dX12_feed_42 : decode cX12_feed 42 = .ok (.iload 5, 2) := by decide +kernel
theorem dX12_feed_44 : decode cX12_feed 44 = .ok (.invokevirtual 171, 3) := by decide +kernel
theorem dX12_feed_47 : decode cX12_feed 47 = .ok (.aload_n 0, 1) := by decide +kernel
theorem dX12_feed_48 : decode cX12_feed 48 = .ok (.getfield 168, 3) := by decide +kernel
theorem dX12_feed_51 : decode cX12_feed 51 = .ok (.ireturn, 1) := by decide +kernel
abbrev rmX12_feed : Room := { frames := 1, cells := 0, slots := 0, locals := 22 }
noncomputable def fX12_feed (σ : St) (x0 : Nat) (x1 : Int32) (x2 : Int32) (x3 : Int32) (x4 : Int32) (x5 : Int32) : Option ((Int32 × St)) :=
(wrF σ x0 11 0 (.int (0))).bind fun σ2 =>
(gI σ2 x0 11 7).bind fun v6 =>
if (v6 + 20) ≤ ((300 : Int32)) then
((isO σ2 x0 11).bind fun _ =>
(fX12_comes σ2 x0 x1).bind fun w22 =>
(isO w22 x0 11).bind fun _ =>
(fX12_comes w22 x0 x2).bind fun w27 =>
(isO w27 x0 11).bind fun _ =>
(fX12_comes w27 x0 x3).bind fun w32 =>
(isO w32 x0 11).bind fun _ =>
(fX12_comes w32 x0 x4).bind fun w38 =>
(isO w38 x0 11).bind fun _ =>
(fX12_comes w38 x0 x5).bind fun w44 =>
(gI w44 x0 11 7).bind fun v48 =>
some (v48, w44))
else
(some ((-1), σ2))
set_option maxHeartbeats 4000000 in
set_option maxRecDepth 100000 in
theorem cX12_feedc {l : Launch} {G : xG} {A : Nat → Prop} {σ : St} {x0 : Nat} {x1 : Int32} {x2 : Int32} {x3 : Int32} {x4 : Int32} {x5 : Int32} {c : (Int32 × St)} (hf : fX12_feed σ x0 x1 x2 x3 x4 x5 = some c) : Con l yX12_feed (xws yX12_feed cX12_feed 6 (some .int)) rmX12_feed [.ref (x0), .int (x1), .int (x2), .int (x3), .int (x4), .int (x5)] G A σ (some (.int c.1)) c.2 := by
  refine x_start rfl (Nat.le_of_ble_eq_true rfl) (fun X _ _ _ C hE0 => ?_)
  have hE : ∀ r, c = r → xE1 X (some (.int r.1)) r.2 := fun r e => e ▸ hE0
  show V X (0, 0) σ 0 [(0, .ref (x0)), (1, .int (x1)), (2, .int (x2)), (3, .int (x3)), (4, .int (x4)), (5, .int (x5))] []
  unfold fX12_feed at hf
  refine x_aload_n C dX12_feed_0 1 rfl 0 rfl rfl ?_
  refine x_iconst C dX12_feed_1 2 rfl 0 (by decide) ?_
  obtain ⟨σ2, hσ2, hf⟩ := x_bind hf
  refine x_putX C dX12_feed_2 5 rfl hσ2 cl11 rfl w1443 rfl rfl rfl ?_
  refine x_aload_n C dX12_feed_5 6 rfl 0 rfl rfl ?_
  obtain ⟨v6, hv6, hf⟩ := x_bind hf
  refine x_getI C dX12_feed_6 9 rfl hv6 cl11 rfl w1450 ?_
  refine x_bipush C dX12_feed_9 11 rfl 20 (by decide) ?_
  refine x_iadd C dX12_feed_11 12 rfl ?_
  refine x_sipush C dX12_feed_12 15 rfl 300 (by decide) ?_
  refine x_icmp_le C dX12_feed_15 20 (by decide) 18 rfl (fun hc => ?_) (fun hc => ?_)
  · have hf := (if_pos hc).symm.trans hf
    refine x_aload_n C dX12_feed_20 21 rfl 0 rfl rfl ?_
    refine x_iload_n C dX12_feed_21 22 rfl 1 rfl rfl ?_
    obtain ⟨o22, ho22, hf⟩ := x_bind hf
    obtain ⟨w22, hw22, hf⟩ := x_bind hf
    refine x_callVv C dX12_feed_22 25 rfl ho22 cl11.1 rfl (cX12_comesc hw22) kX12_comes kvX12_comes w1637 ⟨rfl, rfl⟩ ⟨Nat.le_of_ble_eq_true rfl, Nat.le_of_ble_eq_true rfl⟩ ⟨Nat.zero_le _, Nat.zero_le _⟩ rfl rfl (Nat.le_of_ble_eq_true rfl) ?_
    refine x_aload_n C dX12_feed_25 26 rfl 0 rfl rfl ?_
    refine x_iload_n C dX12_feed_26 27 rfl 2 rfl rfl ?_
    obtain ⟨o27, ho27, hf⟩ := x_bind hf
    obtain ⟨w27, hw27, hf⟩ := x_bind hf
    refine x_callVv C dX12_feed_27 30 rfl ho27 cl11.1 rfl (cX12_comesc hw27) kX12_comes kvX12_comes w1637 ⟨rfl, rfl⟩ ⟨Nat.le_of_ble_eq_true rfl, Nat.le_of_ble_eq_true rfl⟩ ⟨Nat.zero_le _, Nat.zero_le _⟩ rfl rfl (Nat.le_of_ble_eq_true rfl) ?_
    refine x_aload_n C dX12_feed_30 31 rfl 0 rfl rfl ?_
    refine x_iload_n C dX12_feed_31 32 rfl 3 rfl rfl ?_
    obtain ⟨o32, ho32, hf⟩ := x_bind hf
    obtain ⟨w32, hw32, hf⟩ := x_bind hf
    refine x_callVv C dX12_feed_32 35 rfl ho32 cl11.1 rfl (cX12_comesc hw32) kX12_comes kvX12_comes w1637 ⟨rfl, rfl⟩ ⟨Nat.le_of_ble_eq_true rfl, Nat.le_of_ble_eq_true rfl⟩ ⟨Nat.zero_le _, Nat.zero_le _⟩ rfl rfl (Nat.le_of_ble_eq_true rfl) ?_
    refine x_aload_n C dX12_feed_35 36 rfl 0 rfl rfl ?_
    refine x_iload C dX12_feed_36 38 rfl 4 rfl ?_
    obtain ⟨o38, ho38, hf⟩ := x_bind hf
    obtain ⟨w38, hw38, hf⟩ := x_bind hf
    refine x_callVv C dX12_feed_38 41 rfl ho38 cl11.1 rfl (cX12_comesc hw38) kX12_comes kvX12_comes w1637 ⟨rfl, rfl⟩ ⟨Nat.le_of_ble_eq_true rfl, Nat.le_of_ble_eq_true rfl⟩ ⟨Nat.zero_le _, Nat.zero_le _⟩ rfl rfl (Nat.le_of_ble_eq_true rfl) ?_
    refine x_aload_n C dX12_feed_41 42 rfl 0 rfl rfl ?_
    refine x_iload C dX12_feed_42 44 rfl 5 rfl ?_
    obtain ⟨o44, ho44, hf⟩ := x_bind hf
    obtain ⟨w44, hw44, hf⟩ := x_bind hf
    refine x_callVv C dX12_feed_44 47 rfl ho44 cl11.1 rfl (cX12_comesc hw44) kX12_comes kvX12_comes w1637 ⟨rfl, rfl⟩ ⟨Nat.le_of_ble_eq_true rfl, Nat.le_of_ble_eq_true rfl⟩ ⟨Nat.zero_le _, Nat.zero_le _⟩ rfl rfl (Nat.le_of_ble_eq_true rfl) ?_
    refine x_aload_n C dX12_feed_47 48 rfl 0 rfl rfl ?_
    obtain ⟨v48, hv48, hf⟩ := x_bind hf
    refine x_getI C dX12_feed_48 51 rfl hv48 cl11 rfl w1450 ?_
    exact x_iret C (hE _ (Option.some.inj hf).symm) dX12_feed_51
  · have hf := (if_neg hc).symm.trans hf
    refine x_iconst C dX12_feed_18 19 rfl (-1) (by decide) ?_
    exact x_iret C (hE _ (Option.some.inj hf).symm) dX12_feed_19
