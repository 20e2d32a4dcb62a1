/-! methods: X12_frees X12_free X12_isWay X12_makes -/
theorem dX12_frees_0 : decode cX12_frees 0 = .ok (.iload_n 3, 1) := by decide +kernel
theorem dX12_frees_1 : decode cX12_frees 1 = .ok (.ifCond .ne 5, 3) := by decide +kernel
theorem dX12_frees_4 : decode cX12_frees 4 = .ok (.iconst 1, 1) := by decide +kernel
theorem dX12_frees_5 : decode cX12_frees 5 = .ok (.ireturn, 1) := by decide +kernel
theorem dX12_frees_6 : decode cX12_frees 6 = .ok (.iconst 0, 1) := by decide +kernel
theorem dX12_frees_7 : decode cX12_frees 7 = .ok (.istore 4, 2) := by decide +kernel
theorem dX12_frees_9 : decode cX12_frees 9 = .ok (.iconst 1, 1) := by decide +kernel
theorem dX12_frees_10 : decode cX12_frees 10 = .ok (.istore 5, 2) := by decide +kernel
theorem dX12_frees_12 : decode cX12_frees 12 = .ok (.iload 5, 2) := by decide +kernel
theorem dX12_frees_14 : decode cX12_frees 14 = .ok (.aload_n 0, 1) := by decide +kernel
theorem dX12_frees_15 : decode cX12_frees 15 = .ok (.invokevirtual 409, 3) := by decide +kernel
theorem dX12_frees_18 : decode cX12_frees 18 = .ok (.if_icmp .gt 47, 3) := by decide +kernel
theorem dX12_frees_21 : decode cX12_frees 21 = .ok (.ldc2_w 134, 3) := by decide +kernel
theorem dX12_frees_24 : decode cX12_frees 24 = .ok (.lload_n 1, 1) := by decide +kernel
theorem dX12_frees_25 : decode cX12_frees 25 = .ok (.lmul, 1) := by decide +kernel
theorem dX12_frees_26 : decode cX12_frees 26 = .ok (.iload 5, 2) := by decide +kernel
theorem dX12_frees_28 : decode cX12_frees 28 = .ok (.i2l, 1) := by decide +kernel
theorem dX12_frees_29 : decode cX12_frees 29 = .ok (.ladd, 1) := by decide +kernel
theorem dX12_frees_30 : decode cX12_frees 30 = .ok (.lstore 6, 2) := by decide +kernel
theorem dX12_frees_32 : decode cX12_frees 32 = .ok (.iload 4, 2) := by decide +kernel
theorem dX12_frees_34 : decode cX12_frees 34 = .ok (.aload_n 0, 1) := by decide +kernel
theorem dX12_frees_35 : decode cX12_frees 35 = .ok (.lload 6, 2) := by decide +kernel
theorem dX12_frees_37 : decode cX12_frees 37 = .ok (.invokevirtual 436, 3) := by decide +kernel
theorem dX12_frees_40 : decode cX12_frees 40 = .ok (.ifCond .eq 7, 3) := by decide +kernel
theorem dX12_frees_43 : decode cX12_frees 43 = .ok (.iconst 0, 1) := by decide +kernel
theorem dX12_frees_44 : decode cX12_frees 44 = .ok (.goto 12, 3) := by decide +kernel
theorem dX12_frees_47 : decode cX12_frees 47 = .ok (.aload_n 0, 1) := by decide +kernel
theorem dX12_frees_48 : decode cX12_frees 48 = .ok (.lload 6, 2) := by decide +kernel
theorem dX12_frees_50 : decode cX12_frees 50 = .ok (.iload_n 3, 1) := by decide +kernel
theorem dX12_frees_51 : decode cX12_frees 51 = .ok (.iconst 1, 1) := by decide +kernel
theorem dX12_frees_52 : decode cX12_frees 52 = .ok (.isub, 1) := by decide +kernel
theorem dX12_frees_53 : decode cX12_frees 53 = .ok (.invokevirtual 439, 3) := by decide +kernel
theorem dX12_frees_56 : decode cX12_frees 56 = .ok (.iadd, 1) := by decide +kernel
theorem dX12_frees_57 : decode cX12_frees 57 = .ok (.istore 4, 2) := by decide +kernel
theorem dX12_frees_59 : decode cX12_frees 59 = .ok (.iinc 5 1, 3) := by decide +kernel
theorem dX12_frees_62 : decode cX12_frees 62 = .ok (.goto (-50), 3) := by decide +kernel
theorem dX12_frees_65 : decode cX12_frees 65 = .ok (.iload 4, 2) := by decide +kernel
theorem dX12_frees_67 : decode cX12_frees 67 = .ok (.ireturn, 1) := by decide +kernel
abbrev rmX12_frees_d0 : Room := { frames := 3, cells := 0, slots := 0, locals := 72 }
noncomputable def fLX12_frees_d0_12 (σ : St) (x0 : Nat) (x1 : Int64) (x3 : Int32) (a : Int32 × Int32) : Option ((Int32 × Int32) ⊕ (Int32)) :=
(isO σ x0 11).bind fun _ =>
(fX12_letters σ x0).bind fun w15 =>
if w15 < a.2 then
(some (Sum.inr a.1))
else
(xlet ((6 * x1) + a.2.toInt64) fun v30 =>
(isO σ x0 11).bind fun _ =>
(fX12_endsLeft σ x0 v30).bind fun w37 =>
if w37 = 0 then
((isO σ x0 11).bind fun _ =>
none)
else
(xlet (a.1 + 0) fun v57 =>
xlet (a.2 + 1) fun v59 =>
some (Sum.inl (v57, v59))))
set_option maxHeartbeats 4000000 in
set_option maxRecDepth 100000 in
theorem lpX12_frees_d0_12 {X : xX} {σ : St} {x0 : Nat} {x1 : Int64} {x3 : Int32}  {a0 : Int32 × Int32} {b : Int32} (C : Ok X cX12_frees 8 RX12 rmX12_frees_d0 (some .int)) (hb : iterP (fLX12_frees_d0_12 σ x0 x1 x3) a0 = some b) (hy0 : ∀ s, b = s → V X (0, 0) σ 65 [(4, .int (s))] []) : V X (0, 0) σ 12 [(0, .ref (x0)), (1, .long (x1)), (3, .int (x3)), (4, .int (a0.1)), (5, .int (a0.2))] [] := by
  obtain ⟨n, hn⟩ := iterP_some hb
  refine x_loop (P := fun a => V X (0, 0) σ 12 [(0, .ref (x0)), (1, .long (x1)), (3, .int (x3)), (4, .int (a.1)), (5, .int (a.2))] []) ?_ n a0 hn
  intro a c hf hK hxx
  have hx0 : ∀ s, c = Sum.inr s → V X (0, 0) σ 65 [(4, .int (s))] [] := fun s e => hy0 s (hxx _ e).symm
  unfold fLX12_frees_d0_12 at hf
  refine x_iload C dX12_frees_12 14 rfl 4 rfl ?_
  refine x_aload_n C dX12_frees_14 15 rfl 0 rfl rfl ?_
  obtain ⟨o15, ho15, hf⟩ := x_bind hf
  obtain ⟨w15, hw15, hf⟩ := x_bind hf
  refine x_callVi C dX12_frees_15 18 rfl ho15 cl11.1 rfl (cX12_lettersc hw15) kX12_letters kvX12_letters w1860 ⟨rfl, rfl⟩ ⟨Nat.le_of_ble_eq_true rfl, Nat.le_of_ble_eq_true rfl⟩ ⟨Nat.zero_le _, Nat.zero_le _⟩ rfl rfl (Nat.le_of_ble_eq_true rfl) ?_
  refine x_icmp_gt C dX12_frees_18 65 (by decide) 21 rfl (fun hc => ?_) (fun hc => ?_)
  · have hf := (if_pos hc).symm.trans hf
    refine x_lv [3] (lv' := [(4, .int (a.1))]) rfl ?_
    exact hx0 _ (Option.some.inj hf).symm
  · have hf := (if_neg hc).symm.trans hf
    refine x_ldc2 C dX12_frees_21 24 rfl w1704 ?_
    refine x_lload_n C dX12_frees_24 25 rfl 1 rfl rfl ?_
    refine x_lmul C dX12_frees_25 26 rfl ?_
    refine x_iload C dX12_frees_26 28 rfl 4 rfl ?_
    refine x_i2l C dX12_frees_28 29 rfl ?_
    refine x_ladd C dX12_frees_29 30 rfl ?_
    obtain ⟨v30, ev30, hf⟩ := xlet_some hf
    refine x_topl ev30 ?_
    refine x_lstore C dX12_frees_30 32 rfl rfl [(6, .long (v30)), (0, .ref (x0)), (1, .long (x1)), (3, .int (x3)), (4, .int (a.1)), (5, .int (a.2))] rfl ?_
    refine x_iload C dX12_frees_32 34 rfl 4 rfl ?_
    refine x_aload_n C dX12_frees_34 35 rfl 1 rfl rfl ?_
    refine x_lload C dX12_frees_35 37 rfl 0 rfl ?_
    obtain ⟨o37, ho37, hf⟩ := x_bind hf
    obtain ⟨w37, hw37, hf⟩ := x_bind hf
    refine x_callVi C dX12_frees_37 40 rfl ho37 cl11.1 rfl (cX12_endsLeftc hw37) kX12_endsLeft kvX12_endsLeft w1922 ⟨rfl, rfl⟩ ⟨Nat.le_of_ble_eq_true rfl, Nat.le_of_ble_eq_true rfl⟩ ⟨Nat.zero_le _, Nat.zero_le _⟩ rfl rfl (Nat.le_of_ble_eq_true rfl) ?_
    refine x_if_eq C dX12_frees_40 47 (by decide) 43 rfl (fun hc => ?_) (fun hc => ?_)
    · have hf := (if_pos hc).symm.trans hf
      refine x_aload_n C dX12_frees_47 48 rfl 1 rfl rfl ?_
      refine x_lload C dX12_frees_48 50 rfl 0 rfl ?_
      refine x_iload_n C dX12_frees_50 51 rfl 3 rfl rfl ?_
      refine x_iconst C dX12_frees_51 52 rfl 1 (by decide) ?_
      refine x_isub C dX12_frees_52 53 rfl ?_
      obtain ⟨o53, ho53, hf⟩ := x_bind hf
      cases hf
    · have hf := (if_neg hc).symm.trans hf
      refine x_iconst C dX12_frees_43 44 rfl 0 (by decide) ?_
      refine x_goto C dX12_frees_44 56 (by decide) ?_
      refine x_iadd C dX12_frees_56 57 rfl ?_
      obtain ⟨v57, ev57, hf⟩ := xlet_some hf
      refine x_topi ev57 ?_
      refine x_istore C dX12_frees_57 59 rfl rfl [(4, .int (v57)), (6, .long (v30)), (0, .ref (x0)), (1, .long (x1)), (3, .int (x3)), (5, .int (a.2))] rfl ?_
      obtain ⟨v59, ev59, hf⟩ := xlet_some hf
      refine x_iinc C dX12_frees_59 62 rfl 5 rfl v59 ev59 rfl [(5, .int (v59)), (4, .int (v57)), (6, .long (v30)), (0, .ref (x0)), (1, .long (x1)), (3, .int (x3))] rfl ?_
      refine x_goto C dX12_frees_62 12 (by decide) ?_
      refine x_lv [3, 4, 5, 1, 0] (lv' := [(0, .ref (x0)), (1, .long (x1)), (3, .int (x3)), (4, .int (v57)), (5, .int (v59))]) rfl ?_
      exact hK _ (Option.some.inj hf).symm
noncomputable def fX12_frees_d0 (σ : St) (x0 : Nat) (x1 : Int64) (x3 : Int32) : Option (Int32) :=
if x3 = 0 then
(some 1)
else
((iterP (fLX12_frees_d0_12 σ x0 x1 x3) (0, 1)).bind fun b12 =>
some b12)
set_option maxHeartbeats 4000000 in
set_option maxRecDepth 100000 in
theorem cX12_frees_d0c {l : Launch} {G : xG} {A : Nat → Prop} {σ : St} {x0 : Nat} {x1 : Int64} {x3 : Int32} {c : Int32} (hf : fX12_frees_d0 σ x0 x1 x3 = some c) : Con l yX12_frees (xws yX12_frees cX12_frees 8 (some .int)) rmX12_frees_d0 [.ref (x0), .long (x1), .int (x3)] G A σ (some (.int c)) σ := by
  refine x_start rfl (Nat.le_of_ble_eq_true rfl) (fun X _ _ _ C hE0 => ?_)
  have hE : ∀ r, c = r → xE1 X (some (.int r)) σ := fun r e => e ▸ hE0
  show V X (0, 0) σ 0 [(0, .ref (x0)), (1, .long (x1)), (3, .int (x3))] []
  unfold fX12_frees_d0 at hf
  refine x_iload_n C dX12_frees_0 1 rfl 2 rfl rfl ?_
  refine x_if_ne C dX12_frees_1 6 (by decide) 4 rfl (fun hc => ?_) (fun hc => ?_)
  · have hf := (if_neg hc).symm.trans hf
    refine x_iconst C dX12_frees_6 7 rfl 0 (by decide) ?_
    refine x_istore C dX12_frees_7 9 rfl rfl [(4, .int (0)), (0, .ref (x0)), (1, .long (x1)), (3, .int (x3))] rfl ?_
    refine x_iconst C dX12_frees_9 10 rfl 1 (by decide) ?_
    refine x_istore C dX12_frees_10 12 rfl rfl [(5, .int (1)), (4, .int (0)), (0, .ref (x0)), (1, .long (x1)), (3, .int (x3))] rfl ?_
    obtain ⟨b12, hb12, hf⟩ := x_bind hf
    refine x_lv [2, 3, 4, 1, 0] (lv' := [(0, .ref (x0)), (1, .long (x1)), (3, .int (x3)), (4, .int (0)), (5, .int (1))]) rfl ?_
    refine lpX12_frees_d0_12 C hb12 (fun s12 e12 => ?_)
    subst e12
    refine x_iload C dX12_frees_65 67 rfl 0 rfl ?_
    exact x_iret C (hE _ (Option.some.inj hf).symm) dX12_frees_67
  · have hf := (if_pos hc).symm.trans hf
    refine x_iconst C dX12_frees_4 5 rfl 1 (by decide) ?_
    exact x_iret C (hE _ (Option.some.inj hf).symm) dX12_frees_5
abbrev rmX12_frees_d1 : Room := { frames := 4, cells := 0, slots := 0, locals := 99 }
noncomputable def fLX12_frees_d1_12 (σ : St) (x0 : Nat) (x1 : Int64) (x3 : Int32) (a : Int32 × Int32) : Option ((Int32 × Int32) ⊕ (Int32)) :=
(isO σ x0 11).bind fun _ =>
(fX12_letters σ x0).bind fun w15 =>
if w15 < a.2 then
(some (Sum.inr a.1))
else
(xlet ((6 * x1) + a.2.toInt64) fun v30 =>
(isO σ x0 11).bind fun _ =>
(fX12_endsLeft σ x0 v30).bind fun w37 =>
if w37 = 0 then
((isO σ x0 11).bind fun _ =>
(fX12_frees_d0 σ x0 v30 (x3 - 1)).bind fun w53 =>
xlet (a.1 + w53) fun v57 =>
xlet (a.2 + 1) fun v59 =>
some (Sum.inl (v57, v59)))
else
(xlet (a.1 + 0) fun v57 =>
xlet (a.2 + 1) fun v59 =>
some (Sum.inl (v57, v59))))
set_option maxHeartbeats 4000000 in
set_option maxRecDepth 100000 in
theorem lpX12_frees_d1_12 {X : xX} {σ : St} {x0 : Nat} {x1 : Int64} {x3 : Int32}  {a0 : Int32 × Int32} {b : Int32} (C : Ok X cX12_frees 8 RX12 rmX12_frees_d1 (some .int)) (hb : iterP (fLX12_frees_d1_12 σ x0 x1 x3) a0 = some b) (hy0 : ∀ s, b = s → V X (0, 0) σ 65 [(4, .int (s))] []) : V X (0, 0) σ 12 [(0, .ref (x0)), (1, .long (x1)), (3, .int (x3)), (4, .int (a0.1)), (5, .int (a0.2))] [] := by
  obtain ⟨n, hn⟩ := iterP_some hb
  refine x_loop (P := fun a => V X (0, 0) σ 12 [(0, .ref (x0)), (1, .long (x1)), (3, .int (x3)), (4, .int (a.1)), (5, .int (a.2))] []) ?_ n a0 hn
  intro a c hf hK hxx
  have hx0 : ∀ s, c = Sum.inr s → V X (0, 0) σ 65 [(4, .int (s))] [] := fun s e => hy0 s (hxx _ e).symm
  unfold fLX12_frees_d1_12 at hf
  refine x_iload C dX12_frees_12 14 rfl 4 rfl ?_
  refine x_aload_n C dX12_frees_14 15 rfl 0 rfl rfl ?_
  obtain ⟨o15, ho15, hf⟩ := x_bind hf
  obtain ⟨w15, hw15, hf⟩ := x_bind hf
  refine x_callVi C dX12_frees_15 18 rfl ho15 cl11.1 rfl (cX12_lettersc hw15) kX12_letters kvX12_letters w1860 ⟨rfl, rfl⟩ ⟨Nat.le_of_ble_eq_true rfl, Nat.le_of_ble_eq_true rfl⟩ ⟨Nat.zero_le _, Nat.zero_le _⟩ rfl rfl (Nat.le_of_ble_eq_true rfl) ?_
  refine x_icmp_gt C dX12_frees_18 65 (by decide) 21 rfl (fun hc => ?_) (fun hc => ?_)
  · have hf := (if_pos hc).symm.trans hf
    refine x_lv [3] (lv' := [(4, .int (a.1))]) rfl ?_
    exact hx0 _ (Option.some.inj hf).symm
  · have hf := (if_neg hc).symm.trans hf
    refine x_ldc2 C dX12_frees_21 24 rfl w1704 ?_
    refine x_lload_n C dX12_frees_24 25 rfl 1 rfl rfl ?_
    refine x_lmul C dX12_frees_25 26 rfl ?_
    refine x_iload C dX12_frees_26 28 rfl 4 rfl ?_
    refine x_i2l C dX12_frees_28 29 rfl ?_
    refine x_ladd C dX12_frees_29 30 rfl ?_
    obtain ⟨v30, ev30, hf⟩ := xlet_some hf
    refine x_topl ev30 ?_
    refine x_lstore C dX12_frees_30 32 rfl rfl [(6, .long (v30)), (0, .ref (x0)), (1, .long (x1)), (3, .int (x3)), (4, .int (a.1)), (5, .int (a.2))] rfl ?_
    refine x_iload C dX12_frees_32 34 rfl 4 rfl ?_
    refine x_aload_n C dX12_frees_34 35 rfl 1 rfl rfl ?_
    refine x_lload C dX12_frees_35 37 rfl 0 rfl ?_
    obtain ⟨o37, ho37, hf⟩ := x_bind hf
    obtain ⟨w37, hw37, hf⟩ := x_bind hf
    refine x_callVi C dX12_frees_37 40 rfl ho37 cl11.1 rfl (cX12_endsLeftc hw37) kX12_endsLeft kvX12_endsLeft w1922 ⟨rfl, rfl⟩ ⟨Nat.le_of_ble_eq_true rfl, Nat.le_of_ble_eq_true rfl⟩ ⟨Nat.zero_le _, Nat.zero_le _⟩ rfl rfl (Nat.le_of_ble_eq_true rfl) ?_
    refine x_if_eq C dX12_frees_40 47 (by decide) 43 rfl (fun hc => ?_) (fun hc => ?_)
    · have hf := (if_pos hc).symm.trans hf
      refine x_aload_n C dX12_frees_47 48 rfl 1 rfl rfl ?_
      refine x_lload C dX12_frees_48 50 rfl 0 rfl ?_
      refine x_iload_n C dX12_frees_50 51 rfl 3 rfl rfl ?_
      refine x_iconst C dX12_frees_51 52 rfl 1 (by decide) ?_
      refine x_isub C dX12_frees_52 53 rfl ?_
      obtain ⟨o53, ho53, hf⟩ := x_bind hf
      obtain ⟨w53, hw53, hf⟩ := x_bind hf
      refine x_callVi C dX12_frees_53 56 rfl ho53 cl11.1 rfl (cX12_frees_d0c hw53) kX12_frees kvX12_frees w1918 ⟨rfl, rfl⟩ ⟨Nat.le_of_ble_eq_true rfl, Nat.le_of_ble_eq_true rfl⟩ ⟨Nat.zero_le _, Nat.zero_le _⟩ rfl rfl (Nat.le_of_ble_eq_true rfl) ?_
      refine x_iadd C dX12_frees_56 57 rfl ?_
      obtain ⟨v57, ev57, hf⟩ := xlet_some hf
      refine x_topi ev57 ?_
      refine x_istore C dX12_frees_57 59 rfl rfl [(4, .int (v57)), (6, .long (v30)), (0, .ref (x0)), (1, .long (x1)), (3, .int (x3)), (5, .int (a.2))] rfl ?_
      obtain ⟨v59, ev59, hf⟩ := xlet_some hf
      refine x_iinc C dX12_frees_59 62 rfl 5 rfl v59 ev59 rfl [(5, .int (v59)), (4, .int (v57)), (6, .long (v30)), (0, .ref (x0)), (1, .long (x1)), (3, .int (x3))] rfl ?_
      refine x_goto C dX12_frees_62 12 (by decide) ?_
      refine x_lv [3, 4, 5, 1, 0] (lv' := [(0, .ref (x0)), (1, .long (x1)), (3, .int (x3)), (4, .int (v57)), (5, .int (v59))]) rfl ?_
      exact hK _ (Option.some.inj hf).symm
    · have hf := (if_neg hc).symm.trans hf
      refine x_iconst C dX12_frees_43 44 rfl 0 (by decide) ?_
      refine x_goto C dX12_frees_44 56 (by decide) ?_
      refine x_iadd C dX12_frees_56 57 rfl ?_
      obtain ⟨v57, ev57, hf⟩ := xlet_some hf
      refine x_topi ev57 ?_
      refine x_istore C dX12_frees_57 59 rfl rfl [(4, .int (v57)), (6, .long (v30)), (0, .ref (x0)), (1, .long (x1)), (3, .int (x3)), (5, .int (a.2))] rfl ?_
      obtain ⟨v59, ev59, hf⟩ := xlet_some hf
      refine x_iinc C dX12_frees_59 62 rfl 5 rfl v59 ev59 rfl [(5, .int (v59)), (4, .int (v57)), (6, .long (v30)), (0, .ref (x0)), (1, .long (x1)), (3, .int (x3))] rfl ?_
      refine x_goto C dX12_frees_62 12 (by decide) ?_
      refine x_lv [3, 4, 5, 1, 0] (lv' := [(0, .ref (x0)), (1, .long (x1)), (3, .int (x3)), (4, .int (v57)), (5, .int (v59))]) rfl ?_
      exact hK _ (Option.some.inj hf).symm
noncomputable def fX12_frees_d1 (σ : St) (x0 : Nat) (x1 : Int64) (x3 : Int32) : Option (Int32) :=
if x3 = 0 then
(some 1)
else
((iterP (fLX12_frees_d1_12 σ x0 x1 x3) (0, 1)).bind fun b12 =>
some b12)
set_option maxHeartbeats 4000000 in
set_option maxRecDepth 100000 in
theorem cX12_frees_d1c {l : Launch} {G : xG} {A : Nat → Prop} {σ : St} {x0 : Nat} {x1 : Int64} {x3 : Int32} {c : Int32} (hf : fX12_frees_d1 σ x0 x1 x3 = some c) : Con l yX12_frees (xws yX12_frees cX12_frees 8 (some .int)) rmX12_frees_d1 [.ref (x0), .long (x1), .int (x3)] G A σ (some (.int c)) σ := by
  refine x_start rfl (Nat.le_of_ble_eq_true rfl) (fun X _ _ _ C hE0 => ?_)
  have hE : ∀ r, c = r → xE1 X (some (.int r)) σ := fun r e => e ▸ hE0
  show V X (0, 0) σ 0 [(0, .ref (x0)), (1, .long (x1)), (3, .int (x3))] []
  unfold fX12_frees_d1 at hf
  refine x_iload_n C dX12_frees_0 1 rfl 2 rfl rfl ?_
  refine x_if_ne C dX12_frees_1 6 (by decide) 4 rfl (fun hc => ?_) (fun hc => ?_)
  · have hf := (if_neg hc).symm.trans hf
    refine x_iconst C dX12_frees_6 7 rfl 0 (by decide) ?_
    refine x_istore C dX12_frees_7 9 rfl rfl [(4, .int (0)), (0, .ref (x0)), (1, .long (x1)), (3, .int (x3))] rfl ?_
    refine x_iconst C dX12_frees_9 10 rfl 1 (by decide) ?_
    refine x_istore C dX12_frees_10 12 rfl rfl [(5, .int (1)), (4, .int (0)), (0, .ref (x0)), (1, .long (x1)), (3, .int (x3))] rfl ?_
    obtain ⟨b12, hb12, hf⟩ := x_bind hf
    refine x_lv [2, 3, 4, 1, 0] (lv' := [(0, .ref (x0)), (1, .long (x1)), (3, .int (x3)), (4, .int (0)), (5, .int (1))]) rfl ?_
    refine lpX12_frees_d1_12 C hb12 (fun s12 e12 => ?_)
    subst e12
    refine x_iload C dX12_frees_65 67 rfl 0 rfl ?_
    exact x_iret C (hE _ (Option.some.inj hf).symm) dX12_frees_67
  · have hf := (if_pos hc).symm.trans hf
    refine x_iconst C dX12_frees_4 5 rfl 1 (by decide) ?_
    exact x_iret C (hE _ (Option.some.inj hf).symm) dX12_frees_5
abbrev rmX12_frees_d2 : Room := { frames := 5, cells := 0, slots := 0, locals := 126 }
noncomputable def fLX12_frees_d2_12 (σ : St) (x0 : Nat) (x1 : Int64) (x3 : Int32) (a : Int32 × Int32) : Option ((Int32 × Int32) ⊕ (Int32)) :=
(isO σ x0 11).bind fun _ =>
(fX12_letters σ x0).bind fun w15 =>
if w15 < a.2 then
(some (Sum.inr a.1))
else
(xlet ((6 * x1) + a.2.toInt64) fun v30 =>
(isO σ x0 11).bind fun _ =>
(fX12_endsLeft σ x0 v30).bind fun w37 =>
if w37 = 0 then
((isO σ x0 11).bind fun _ =>
(fX12_frees_d1 σ x0 v30 (x3 - 1)).bind fun w53 =>
xlet (a.1 + w53) fun v57 =>
xlet (a.2 + 1) fun v59 =>
some (Sum.inl (v57, v59)))
else
(xlet (a.1 + 0) fun v57 =>
xlet (a.2 + 1) fun v59 =>
some (Sum.inl (v57, v59))))
set_option maxHeartbeats 4000000 in
set_option maxRecDepth 100000 in
theorem lpX12_frees_d2_12 {X : xX} {σ : St} {x0 : Nat} {x1 : Int64} {x3 : Int32}  {a0 : Int32 × Int32} {b : Int32} (C : Ok X cX12_frees 8 RX12 rmX12_frees_d2 (some .int)) (hb : iterP (fLX12_frees_d2_12 σ x0 x1 x3) a0 = some b) (hy0 : ∀ s, b = s → V X (0, 0) σ 65 [(4, .int (s))] []) : V X (0, 0) σ 12 [(0, .ref (x0)), (1, .long (x1)), (3, .int (x3)), (4, .int (a0.1)), (5, .int (a0.2))] [] := by
  obtain ⟨n, hn⟩ := iterP_some hb
  refine x_loop (P := fun a => V X (0, 0) σ 12 [(0, .ref (x0)), (1, .long (x1)), (3, .int (x3)), (4, .int (a.1)), (5, .int (a.2))] []) ?_ n a0 hn
  intro a c hf hK hxx
  have hx0 : ∀ s, c = Sum.inr s → V X (0, 0) σ 65 [(4, .int (s))] [] := fun s e => hy0 s (hxx _ e).symm
  unfold fLX12_frees_d2_12 at hf
  refine x_iload C dX12_frees_12 14 rfl 4 rfl ?_
  refine x_aload_n C dX12_frees_14 15 rfl 0 rfl rfl ?_
  obtain ⟨o15, ho15, hf⟩ := x_bind hf
  obtain ⟨w15, hw15, hf⟩ := x_bind hf
  refine x_callVi C dX12_frees_15 18 rfl ho15 cl11.1 rfl (cX12_lettersc hw15) kX12_letters kvX12_letters w1860 ⟨rfl, rfl⟩ ⟨Nat.le_of_ble_eq_true rfl, Nat.le_of_ble_eq_true rfl⟩ ⟨Nat.zero_le _, Nat.zero_le _⟩ rfl rfl (Nat.le_of_ble_eq_true rfl) ?_
  refine x_icmp_gt C dX12_frees_18 65 (by decide) 21 rfl (fun hc => ?_) (fun hc => ?_)
  · have hf := (if_pos hc).symm.trans hf
    refine x_lv [3] (lv' := [(4, .int (a.1))]) rfl ?_
    exact hx0 _ (Option.some.inj hf).symm
  · have hf := (if_neg hc).symm.trans hf
    refine x_ldc2 C dX12_frees_21 24 rfl w1704 ?_
    refine x_lload_n C dX12_frees_24 25 rfl 1 rfl rfl ?_
    refine x_lmul C dX12_frees_25 26 rfl ?_
    refine x_iload C dX12_frees_26 28 rfl 4 rfl ?_
    refine x_i2l C dX12_frees_28 29 rfl ?_
    refine x_ladd C dX12_frees_29 30 rfl ?_
    obtain ⟨v30, ev30, hf⟩ := xlet_some hf
    refine x_topl ev30 ?_
    refine x_lstore C dX12_frees_30 32 rfl rfl [(6, .long (v30)), (0, .ref (x0)), (1, .long (x1)), (3, .int (x3)), (4, .int (a.1)), (5, .int (a.2))] rfl ?_
    refine x_iload C dX12_frees_32 34 rfl 4 rfl ?_
    refine x_aload_n C dX12_frees_34 35 rfl 1 rfl rfl ?_
    refine x_lload C dX12_frees_35 37 rfl 0 rfl ?_
    obtain ⟨o37, ho37, hf⟩ := x_bind hf
    obtain ⟨w37, hw37, hf⟩ := x_bind hf
    refine x_callVi C dX12_frees_37 40 rfl ho37 cl11.1 rfl (cX12_endsLeftc hw37) kX12_endsLeft kvX12_endsLeft w1922 ⟨rfl, rfl⟩ ⟨Nat.le_of_ble_eq_true rfl, Nat.le_of_ble_eq_true rfl⟩ ⟨Nat.zero_le _, Nat.zero_le _⟩ rfl rfl (Nat.le_of_ble_eq_true rfl) ?_
    refine x_if_eq C dX12_frees_40 47 (by decide) 43 rfl (fun hc => ?_) (fun hc => ?_)
    · have hf := (if_pos hc).symm.trans hf
      refine x_aload_n C dX12_frees_47 48 rfl 1 rfl rfl ?_
      refine x_lload C dX12_frees_48 50 rfl 0 rfl ?_
      refine x_iload_n C dX12_frees_50 51 rfl 3 rfl rfl ?_
      refine x_iconst C dX12_frees_51 52 rfl 1 (by decide) ?_
      refine x_isub C dX12_frees_52 53 rfl ?_
      obtain ⟨o53, ho53, hf⟩ := x_bind hf
      obtain ⟨w53, hw53, hf⟩ := x_bind hf
      refine x_callVi C dX12_frees_53 56 rfl ho53 cl11.1 rfl (cX12_frees_d1c hw53) kX12_frees kvX12_frees w1918 ⟨rfl, rfl⟩ ⟨Nat.le_of_ble_eq_true rfl, Nat.le_of_ble_eq_true rfl⟩ ⟨Nat.zero_le _, Nat.zero_le _⟩ rfl rfl (Nat.le_of_ble_eq_true rfl) ?_
      refine x_iadd C dX12_frees_56 57 rfl ?_
      obtain ⟨v57, ev57, hf⟩ := xlet_some hf
      refine x_topi ev57 ?_
      refine x_istore C dX12_frees_57 59 rfl rfl [(4, .int (v57)), (6, .long (v30)), (0, .ref (x0)), (1, .long (x1)), (3, .int (x3)), (5, .int (a.2))] rfl ?_
      obtain ⟨v59, ev59, hf⟩ := xlet_some hf
      refine x_iinc C dX12_frees_59 62 rfl 5 rfl v59 ev59 rfl [(5, .int (v59)), (4, .int (v57)), (6, .long (v30)), (0, .ref (x0)), (1, .long (x1)), (3, .int (x3))] rfl ?_
      refine x_goto C dX12_frees_62 12 (by decide) ?_
      refine x_lv [3, 4, 5, 1, 0] (lv' := [(0, .ref (x0)), (1, .long (x1)), (3, .int (x3)), (4, .int (v57)), (5, .int (v59))]) rfl ?_
      exact hK _ (Option.some.inj hf).symm
    · have hf := (if_neg hc).symm.trans hf
      refine x_iconst C dX12_frees_43 44 rfl 0 (by decide) ?_
      refine x_goto C dX12_frees_44 56 (by decide) ?_
      refine x_iadd C dX12_frees_56 57 rfl ?_
      obtain ⟨v57, ev57, hf⟩ := xlet_some hf
      refine x_topi ev57 ?_
      refine x_istore C dX12_frees_57 59 rfl rfl [(4, .int (v57)), (6, .long (v30)), (0, .ref (x0)), (1, .long (x1)), (3, .int (x3)), (5, .int (a.2))] rfl ?_
      obtain ⟨v59, ev59, hf⟩ := xlet_some hf
      refine x_iinc C dX12_frees_59 62 rfl 5 rfl v59 ev59 rfl [(5, .int (v59)), (4, .int (v57)), (6, .long (v30)), (0, .ref (x0)), (1, .long (x1)), (3, .int (x3))] rfl ?_
      refine x_goto C dX12_frees_62 12 (by decide) ?_
      refine x_lv [3, 4, 5, 1, 0] (lv' := [(0, .ref (x0)), (1, .long (x1)), (3, .int (x3)), (4, .int (v57)), (5, .int (v59))]) rfl ?_
      exact hK _ (Option.some.inj hf).symm
noncomputable def fX12_frees_d2 (σ : St) (x0 : Nat) (x1 : Int64) (x3 : Int32) : Option (Int32) :=
if x3 = 0 then
(some 1)
else
((iterP (fLX12_frees_d2_12 σ x0 x1 x3) (0, 1)).bind fun b12 =>
some b12)
set_option maxHeartbeats 4000000 in
set_option maxRecDepth 100000 in
theorem cX12_frees_d2c {l : Launch} {G : xG} {A : Nat → Prop} {σ : St} {x0 : Nat} {x1 : Int64} {x3 : Int32} {c : Int32} (hf : fX12_frees_d2 σ x0 x1 x3 = some c) : Con l yX12_frees (xws yX12_frees cX12_frees 8 (some .int)) rmX12_frees_d2 [.ref (x0), .long (x1), .int (x3)] G A σ (some (.int c)) σ := by
  refine x_start rfl (Nat.le_of_ble_eq_true rfl) (fun X _ _ _ C hE0 => ?_)
  have hE : ∀ r, c = r → xE1 X (some (.int r)) σ := fun r e => e ▸ hE0
  show V X (0, 0) σ 0 [(0, .ref (x0)), (1, .long (x1)), (3, .int (x3))] []
  unfold fX12_frees_d2 at hf
  refine x_iload_n C dX12_frees_0 1 rfl 2 rfl rfl ?_
  refine x_if_ne C dX12_frees_1 6 (by decide) 4 rfl (fun hc => ?_) (fun hc => ?_)
  · have hf := (if_neg hc).symm.trans hf
    refine x_iconst C dX12_frees_6 7 rfl 0 (by decide) ?_
    refine x_istore C dX12_frees_7 9 rfl rfl [(4, .int (0)), (0, .ref (x0)), (1, .long (x1)), (3, .int (x3))] rfl ?_
    refine x_iconst C dX12_frees_9 10 rfl 1 (by decide) ?_
    refine x_istore C dX12_frees_10 12 rfl rfl [(5, .int (1)), (4, .int (0)), (0, .ref (x0)), (1, .long (x1)), (3, .int (x3))] rfl ?_
    obtain ⟨b12, hb12, hf⟩ := x_bind hf
    refine x_lv [2, 3, 4, 1, 0] (lv' := [(0, .ref (x0)), (1, .long (x1)), (3, .int (x3)), (4, .int (0)), (5, .int (1))]) rfl ?_
    refine lpX12_frees_d2_12 C hb12 (fun s12 e12 => ?_)
    subst e12
    refine x_iload C dX12_frees_65 67 rfl 0 rfl ?_
    exact x_iret C (hE _ (Option.some.inj hf).symm) dX12_frees_67
  · have hf := (if_pos hc).symm.trans hf
    refine x_iconst C dX12_frees_4 5 rfl 1 (by decide) ?_
    exact x_iret C (hE _ (Option.some.inj hf).symm) dX12_frees_5
abbrev rmX12_frees_d3 : Room := { frames := 6, cells := 0, slots := 0, locals := 153 }
noncomputable def fLX12_frees_d3_12 (σ : St) (x0 : Nat) (x1 : Int64) (x3 : Int32) (a : Int32 × Int32) : Option ((Int32 × Int32) ⊕ (Int32)) :=
(isO σ x0 11).bind fun _ =>
(fX12_letters σ x0).bind fun w15 =>
if w15 < a.2 then
(some (Sum.inr a.1))
else
(xlet ((6 * x1) + a.2.toInt64) fun v30 =>
(isO σ x0 11).bind fun _ =>
(fX12_endsLeft σ x0 v30).bind fun w37 =>
if w37 = 0 then
((isO σ x0 11).bind fun _ =>
(fX12_frees_d2 σ x0 v30 (x3 - 1)).bind fun w53 =>
xlet (a.1 + w53) fun v57 =>
xlet (a.2 + 1) fun v59 =>
some (Sum.inl (v57, v59)))
else
(xlet (a.1 + 0) fun v57 =>
xlet (a.2 + 1) fun v59 =>
some (Sum.inl (v57, v59))))
set_option maxHeartbeats 4000000 in
set_option maxRecDepth 100000 in
theorem lpX12_frees_d3_12 {X : xX} {σ : St} {x0 : Nat} {x1 : Int64} {x3 : Int32}  {a0 : Int32 × Int32} {b : Int32} (C : Ok X cX12_frees 8 RX12 rmX12_frees_d3 (some .int)) (hb : iterP (fLX12_frees_d3_12 σ x0 x1 x3) a0 = some b) (hy0 : ∀ s, b = s → V X (0, 0) σ 65 [(4, .int (s))] []) : V X (0, 0) σ 12 [(0, .ref (x0)), (1, .long (x1)), (3, .int (x3)), (4, .int (a0.1)), (5, .int (a0.2))] [] := by
  obtain ⟨n, hn⟩ := iterP_some hb
  refine x_loop (P := fun a => V X (0, 0) σ 12 [(0, .ref (x0)), (1, .long (x1)), (3, .int (x3)), (4, .int (a.1)), (5, .int (a.2))] []) ?_ n a0 hn
  intro a c hf hK hxx
  have hx0 : ∀ s, c = Sum.inr s → V X (0, 0) σ 65 [(4, .int (s))] [] := fun s e => hy0 s (hxx _ e).symm
  unfold fLX12_frees_d3_12 at hf
  refine x_iload C dX12_frees_12 14 rfl 4 rfl ?_
  refine x_aload_n C dX12_frees_14 15 rfl 0 rfl rfl ?_
  obtain ⟨o15, ho15, hf⟩ := x_bind hf
  obtain ⟨w15, hw15, hf⟩ := x_bind hf
  refine x_callVi C dX12_frees_15 18 rfl ho15 cl11.1 rfl (cX12_lettersc hw15) kX12_letters kvX12_letters w1860 ⟨rfl, rfl⟩ ⟨Nat.le_of_ble_eq_true rfl, Nat.le_of_ble_eq_true rfl⟩ ⟨Nat.zero_le _, Nat.zero_le _⟩ rfl rfl (Nat.le_of_ble_eq_true rfl) ?_
  refine x_icmp_gt C dX12_frees_18 65 (by decide) 21 rfl (fun hc => ?_) (fun hc => ?_)
  · have hf := (if_pos hc).symm.trans hf
    refine x_lv [3] (lv' := [(4, .int (a.1))]) rfl ?_
    exact hx0 _ (Option.some.inj hf).symm
  · have hf := (if_neg hc).symm.trans hf
    refine x_ldc2 C dX12_frees_21 24 rfl w1704 ?_
    refine x_lload_n C dX12_frees_24 25 rfl 1 rfl rfl ?_
    refine x_lmul C dX12_frees_25 26 rfl ?_
    refine x_iload C dX12_frees_26 28 rfl 4 rfl ?_
    refine x_i2l C dX12_frees_28 29 rfl ?_
    refine x_ladd C dX12_frees_29 30 rfl ?_
    obtain ⟨v30, ev30, hf⟩ := xlet_some hf
    refine x_topl ev30 ?_
    refine x_lstore C dX12_frees_30 32 rfl rfl [(6, .long (v30)), (0, .ref (x0)), (1, .long (x1)), (3, .int (x3)), (4, .int (a.1)), (5, .int (a.2))] rfl ?_
    refine x_iload C dX12_frees_32 34 rfl 4 rfl ?_
    refine x_aload_n C dX12_frees_34 35 rfl 1 rfl rfl ?_
    refine x_lload C dX12_frees_35 37 rfl 0 rfl ?_
    obtain ⟨o37, ho37, hf⟩ := x_bind hf
    obtain ⟨w37, hw37, hf⟩ := x_bind hf
    refine x_callVi C dX12_frees_37 40 rfl ho37 cl11.1 rfl (cX12_endsLeftc hw37) kX12_endsLeft kvX12_endsLeft w1922 ⟨rfl, rfl⟩ ⟨Nat.le_of_ble_eq_true rfl, Nat.le_of_ble_eq_true rfl⟩ ⟨Nat.zero_le _, Nat.zero_le _⟩ rfl rfl (Nat.le_of_ble_eq_true rfl) ?_
    refine x_if_eq C dX12_frees_40 47 (by decide) 43 rfl (fun hc => ?_) (fun hc => ?_)
    · have hf := (if_pos hc).symm.trans hf
      refine x_aload_n C dX12_frees_47 48 rfl 1 rfl rfl ?_
      refine x_lload C dX12_frees_48 50 rfl 0 rfl ?_
      refine x_iload_n C dX12_frees_50 51 rfl 3 rfl rfl ?_
      refine x_iconst C dX12_frees_51 52 rfl 1 (by decide) ?_
      refine x_isub C dX12_frees_52 53 rfl ?_
      obtain ⟨o53, ho53, hf⟩ := x_bind hf
      obtain ⟨w53, hw53, hf⟩ := x_bind hf
      refine x_callVi C dX12_frees_53 56 rfl ho53 cl11.1 rfl (cX12_frees_d2c hw53) kX12_frees kvX12_frees w1918 ⟨rfl, rfl⟩ ⟨Nat.le_of_ble_eq_true rfl, Nat.le_of_ble_eq_true rfl⟩ ⟨Nat.zero_le _, Nat.zero_le _⟩ rfl rfl (Nat.le_of_ble_eq_true rfl) ?_
      refine x_iadd C dX12_frees_56 57 rfl ?_
      obtain ⟨v57, ev57, hf⟩ := xlet_some hf
      refine x_topi ev57 ?_
      refine x_istore C dX12_frees_57 59 rfl rfl [(4, .int (v57)), (6, .long (v30)), (0, .ref (x0)), (1, .long (x1)), (3, .int (x3)), (5, .int (a.2))] rfl ?_
      obtain ⟨v59, ev59, hf⟩ := xlet_some hf
      refine x_iinc C dX12_frees_59 62 rfl 5 rfl v59 ev59 rfl [(5, .int (v59)), (4, .int (v57)), (6, .long (v30)), (0, .ref (x0)), (1, .long (x1)), (3, .int (x3))] rfl ?_
      refine x_goto C dX12_frees_62 12 (by decide) ?_
      refine x_lv [3, 4, 5, 1, 0] (lv' := [(0, .ref (x0)), (1, .long (x1)), (3, .int (x3)), (4, .int (v57)), (5, .int (v59))]) rfl ?_
      exact hK _ (Option.some.inj hf).symm
    · have hf := (if_neg hc).symm.trans hf
      refine x_iconst C dX12_frees_43 44 rfl 0 (by decide) ?_
      refine x_goto C dX12_frees_44 56 (by decide) ?_
      refine x_iadd C dX12_frees_56 57 rfl ?_
      obtain ⟨v57, ev57, hf⟩ := xlet_some hf
      refine x_topi ev57 ?_
      refine x_istore C dX12_frees_57 59 rfl rfl [(4, .int (v57)), (6, .long (v30)), (0, .ref (x0)), (1, .long (x1)), (3, .int (x3)), (5, .int (a.2))] rfl ?_
      obtain ⟨v59, ev59, hf⟩ := xlet_some hf
      refine x_iinc C dX12_frees_59 62 rfl 5 rfl v59 ev59 rfl [(5, .int (v59)), (4, .int (v57)), (6, .long (v30)), (0, .ref (x0)), (1, .long (x1)), (3, .int (x3))] rfl ?_
      refine x_goto C dX12_frees_62 12 (by decide) ?_
      refine x_lv [3, 4, 5, 1, 0] (lv' := [(0, .ref (x0)), (1, .long (x1)), (3, .int (x3)), (4, .int (v57)), (5, .int (v59))]) rfl ?_
      exact hK _ (Option.some.inj hf).symm
noncomputable def fX12_frees_d3 (σ : St) (x0 : Nat) (x1 : Int64) (x3 : Int32) : Option (Int32) :=
if x3 = 0 then
(some 1)
else
((iterP (fLX12_frees_d3_12 σ x0 x1 x3) (0, 1)).bind fun b12 =>
some b12)
set_option maxHeartbeats 4000000 in
set_option maxRecDepth 100000 in
theorem cX12_frees_d3c {l : Launch} {G : xG} {A : Nat → Prop} {σ : St} {x0 : Nat} {x1 : Int64} {x3 : Int32} {c : Int32} (hf : fX12_frees_d3 σ x0 x1 x3 = some c) : Con l yX12_frees (xws yX12_frees cX12_frees 8 (some .int)) rmX12_frees_d3 [.ref (x0), .long (x1), .int (x3)] G A σ (some (.int c)) σ := by
  refine x_start rfl (Nat.le_of_ble_eq_true rfl) (fun X _ _ _ C hE0 => ?_)
  have hE : ∀ r, c = r → xE1 X (some (.int r)) σ := fun r e => e ▸ hE0
  show V X (0, 0) σ 0 [(0, .ref (x0)), (1, .long (x1)), (3, .int (x3))] []
  unfold fX12_frees_d3 at hf
  refine x_iload_n C dX12_frees_0 1 rfl 2 rfl rfl ?_
  refine x_if_ne C dX12_frees_1 6 (by decide) 4 rfl (fun hc => ?_) (fun hc => ?_)
  · have hf := (if_neg hc).symm.trans hf
    refine x_iconst C dX12_frees_6 7 rfl 0 (by decide) ?_
    refine x_istore C dX12_frees_7 9 rfl rfl [(4, .int (0)), (0, .ref (x0)), (1, .long (x1)), (3, .int (x3))] rfl ?_
    refine x_iconst C dX12_frees_9 10 rfl 1 (by decide) ?_
    refine x_istore C dX12_frees_10 12 rfl rfl [(5, .int (1)), (4, .int (0)), (0, .ref (x0)), (1, .long (x1)), (3, .int (x3))] rfl ?_
    obtain ⟨b12, hb12, hf⟩ := x_bind hf
    refine x_lv [2, 3, 4, 1, 0] (lv' := [(0, .ref (x0)), (1, .long (x1)), (3, .int (x3)), (4, .int (0)), (5, .int (1))]) rfl ?_
    refine lpX12_frees_d3_12 C hb12 (fun s12 e12 => ?_)
    subst e12
    refine x_iload C dX12_frees_65 67 rfl 0 rfl ?_
    exact x_iret C (hE _ (Option.some.inj hf).symm) dX12_frees_67
  · have hf := (if_pos hc).symm.trans hf
    refine x_iconst C dX12_frees_4 5 rfl 1 (by decide) ?_
    exact x_iret C (hE _ (Option.some.inj hf).symm) dX12_frees_5
abbrev rmX12_frees_d4 : Room := { frames := 7, cells := 0, slots := 0, locals := 180 }
noncomputable def fLX12_frees_d4_12 (σ : St) (x0 : Nat) (x1 : Int64) (x3 : Int32) (a : Int32 × Int32) : Option ((Int32 × Int32) ⊕ (Int32)) :=
(isO σ x0 11).bind fun _ =>
(fX12_letters σ x0).bind fun w15 =>
if w15 < a.2 then
(some (Sum.inr a.1))
else
(xlet ((6 * x1) + a.2.toInt64) fun v30 =>
(isO σ x0 11).bind fun _ =>
(fX12_endsLeft σ x0 v30).bind fun w37 =>
if w37 = 0 then
((isO σ x0 11).bind fun _ =>
(fX12_frees_d3 σ x0 v30 (x3 - 1)).bind fun w53 =>
xlet (a.1 + w53) fun v57 =>
xlet (a.2 + 1) fun v59 =>
some (Sum.inl (v57, v59)))
else
(xlet (a.1 + 0) fun v57 =>
xlet (a.2 + 1) fun v59 =>
some (Sum.inl (v57, v59))))
set_option maxHeartbeats 4000000 in
set_option maxRecDepth 100000 in
theorem lpX12_frees_d4_12 {X : xX} {σ : St} {x0 : Nat} {x1 : Int64} {x3 : Int32}  {a0 : Int32 × Int32} {b : Int32} (C : Ok X cX12_frees 8 RX12 rmX12_frees_d4 (some .int)) (hb : iterP (fLX12_frees_d4_12 σ x0 x1 x3) a0 = some b) (hy0 : ∀ s, b = s → V X (0, 0) σ 65 [(4, .int (s))] []) : V X (0, 0) σ 12 [(0, .ref (x0)), (1, .long (x1)), (3, .int (x3)), (4, .int (a0.1)), (5, .int (a0.2))] [] := by
  obtain ⟨n, hn⟩ := iterP_some hb
  refine x_loop (P := fun a => V X (0, 0) σ 12 [(0, .ref (x0)), (1, .long (x1)), (3, .int (x3)), (4, .int (a.1)), (5, .int (a.2))] []) ?_ n a0 hn
  intro a c hf hK hxx
  have hx0 : ∀ s, c = Sum.inr s → V X (0, 0) σ 65 [(4, .int (s))] [] := fun s e => hy0 s (hxx _ e).symm
  unfold fLX12_frees_d4_12 at hf
  refine x_iload C dX12_frees_12 14 rfl 4 rfl ?_
  refine x_aload_n C dX12_frees_14 15 rfl 0 rfl rfl ?_
  obtain ⟨o15, ho15, hf⟩ := x_bind hf
  obtain ⟨w15, hw15, hf⟩ := x_bind hf
  refine x_callVi C dX12_frees_15 18 rfl ho15 cl11.1 rfl (cX12_lettersc hw15) kX12_letters kvX12_letters w1860 ⟨rfl, rfl⟩ ⟨Nat.le_of_ble_eq_true rfl, Nat.le_of_ble_eq_true rfl⟩ ⟨Nat.zero_le _, Nat.zero_le _⟩ rfl rfl (Nat.le_of_ble_eq_true rfl) ?_
  refine x_icmp_gt C dX12_frees_18 65 (by decide) 21 rfl (fun hc => ?_) (fun hc => ?_)
  · have hf := (if_pos hc).symm.trans hf
    refine x_lv [3] (lv' := [(4, .int (a.1))]) rfl ?_
    exact hx0 _ (Option.some.inj hf).symm
  · have hf := (if_neg hc).symm.trans hf
    refine x_ldc2 C dX12_frees_21 24 rfl w1704 ?_
    refine x_lload_n C dX12_frees_24 25 rfl 1 rfl rfl ?_
    refine x_lmul C dX12_frees_25 26 rfl ?_
    refine x_iload C dX12_frees_26 28 rfl 4 rfl ?_
    refine x_i2l C dX12_frees_28 29 rfl ?_
    refine x_ladd C dX12_frees_29 30 rfl ?_
    obtain ⟨v30, ev30, hf⟩ := xlet_some hf
    refine x_topl ev30 ?_
    refine x_lstore C dX12_frees_30 32 rfl rfl [(6, .long (v30)), (0, .ref (x0)), (1, .long (x1)), (3, .int (x3)), (4, .int (a.1)), (5, .int (a.2))] rfl ?_
    refine x_iload C dX12_frees_32 34 rfl 4 rfl ?_
    refine x_aload_n C dX12_frees_34 35 rfl 1 rfl rfl ?_
    refine x_lload C dX12_frees_35 37 rfl 0 rfl ?_
    obtain ⟨o37, ho37, hf⟩ := x_bind hf
    obtain ⟨w37, hw37, hf⟩ := x_bind hf
    refine x_callVi C dX12_frees_37 40 rfl ho37 cl11.1 rfl (cX12_endsLeftc hw37) kX12_endsLeft kvX12_endsLeft w1922 ⟨rfl, rfl⟩ ⟨Nat.le_of_ble_eq_true rfl, Nat.le_of_ble_eq_true rfl⟩ ⟨Nat.zero_le _, Nat.zero_le _⟩ rfl rfl (Nat.le_of_ble_eq_true rfl) ?_
    refine x_if_eq C dX12_frees_40 47 (by decide) 43 rfl (fun hc => ?_) (fun hc => ?_)
    · have hf := (if_pos hc).symm.trans hf
      refine x_aload_n C dX12_frees_47 48 rfl 1 rfl rfl ?_
      refine x_lload C dX12_frees_48 50 rfl 0 rfl ?_
      refine x_iload_n C dX12_frees_50 51 rfl 3 rfl rfl ?_
      refine x_iconst C dX12_frees_51 52 rfl 1 (by decide) ?_
      refine x_isub C dX12_frees_52 53 rfl ?_
      obtain ⟨o53, ho53, hf⟩ := x_bind hf
      obtain ⟨w53, hw53, hf⟩ := x_bind hf
      refine x_callVi C dX12_frees_53 56 rfl ho53 cl11.1 rfl (cX12_frees_d3c hw53) kX12_frees kvX12_frees w1918 ⟨rfl, rfl⟩ ⟨Nat.le_of_ble_eq_true rfl, Nat.le_of_ble_eq_true rfl⟩ ⟨Nat.zero_le _, Nat.zero_le _⟩ rfl rfl (Nat.le_of_ble_eq_true rfl) ?_
      refine x_iadd C dX12_frees_56 57 rfl ?_
      obtain ⟨v57, ev57, hf⟩ := xlet_some hf
      refine x_topi ev57 ?_
      refine x_istore C dX12_frees_57 59 rfl rfl [(4, .int (v57)), (6, .long (v30)), (0, .ref (x0)), (1, .long (x1)), (3, .int (x3)), (5, .int (a.2))] rfl ?_
      obtain ⟨v59, ev59, hf⟩ := xlet_some hf
      refine x_iinc C dX12_frees_59 62 rfl 5 rfl v59 ev59 rfl [(5, .int (v59)), (4, .int (v57)), (6, .long (v30)), (0, .ref (x0)), (1, .long (x1)), (3, .int (x3))] rfl ?_
      refine x_goto C dX12_frees_62 12 (by decide) ?_
      refine x_lv [3, 4, 5, 1, 0] (lv' := [(0, .ref (x0)), (1, .long (x1)), (3, .int (x3)), (4, .int (v57)), (5, .int (v59))]) rfl ?_
      exact hK _ (Option.some.inj hf).symm
    · have hf := (if_neg hc).symm.trans hf
      refine x_iconst C dX12_frees_43 44 rfl 0 (by decide) ?_
      refine x_goto C dX12_frees_44 56 (by decide) ?_
      refine x_iadd C dX12_frees_56 57 rfl ?_
      obtain ⟨v57, ev57, hf⟩ := xlet_some hf
      refine x_topi ev57 ?_
      refine x_istore C dX12_frees_57 59 rfl rfl [(4, .int (v57)), (6, .long (v30)), (0, .ref (x0)), (1, .long (x1)), (3, .int (x3)), (5, .int (a.2))] rfl ?_
      obtain ⟨v59, ev59, hf⟩ := xlet_some hf
      refine x_iinc C dX12_frees_59 62 rfl 5 rfl v59 ev59 rfl [(5, .int (v59)), (4, .int (v57)), (6, .long (v30)), (0, .ref (x0)), (1, .long (x1)), (3, .int (x3))] rfl ?_
      refine x_goto C dX12_frees_62 12 (by decide) ?_
      refine x_lv [3, 4, 5, 1, 0] (lv' := [(0, .ref (x0)), (1, .long (x1)), (3, .int (x3)), (4, .int (v57)), (5, .int (v59))]) rfl ?_
      exact hK _ (Option.some.inj hf).symm
noncomputable def fX12_frees_d4 (σ : St) (x0 : Nat) (x1 : Int64) (x3 : Int32) : Option (Int32) :=
if x3 = 0 then
(some 1)
else
((iterP (fLX12_frees_d4_12 σ x0 x1 x3) (0, 1)).bind fun b12 =>
some b12)
set_option maxHeartbeats 4000000 in
set_option maxRecDepth 100000 in
theorem cX12_frees_d4c {l : Launch} {G : xG} {A : Nat → Prop} {σ : St} {x0 : Nat} {x1 : Int64} {x3 : Int32} {c : Int32} (hf : fX12_frees_d4 σ x0 x1 x3 = some c) : Con l yX12_frees (xws yX12_frees cX12_frees 8 (some .int)) rmX12_frees_d4 [.ref (x0), .long (x1), .int (x3)] G A σ (some (.int c)) σ := by
  refine x_start rfl (Nat.le_of_ble_eq_true rfl) (fun X _ _ _ C hE0 => ?_)
  have hE : ∀ r, c = r → xE1 X (some (.int r)) σ := fun r e => e ▸ hE0
  show V X (0, 0) σ 0 [(0, .ref (x0)), (1, .long (x1)), (3, .int (x3))] []
  unfold fX12_frees_d4 at hf
  refine x_iload_n C dX12_frees_0 1 rfl 2 rfl rfl ?_
  refine x_if_ne C dX12_frees_1 6 (by decide) 4 rfl (fun hc => ?_) (fun hc => ?_)
  · have hf := (if_neg hc).symm.trans hf
    refine x_iconst C dX12_frees_6 7 rfl 0 (by decide) ?_
    refine x_istore C dX12_frees_7 9 rfl rfl [(4, .int (0)), (0, .ref (x0)), (1, .long (x1)), (3, .int (x3))] rfl ?_
    refine x_iconst C dX12_frees_9 10 rfl 1 (by decide) ?_
    refine x_istore C dX12_frees_10 12 rfl rfl [(5, .int (1)), (4, .int (0)), (0, .ref (x0)), (1, .long (x1)), (3, .int (x3))] rfl ?_
    obtain ⟨b12, hb12, hf⟩ := x_bind hf
    refine x_lv [2, 3, 4, 1, 0] (lv' := [(0, .ref (x0)), (1, .long (x1)), (3, .int (x3)), (4, .int (0)), (5, .int (1))]) rfl ?_
    refine lpX12_frees_d4_12 C hb12 (fun s12 e12 => ?_)
    subst e12
    refine x_iload C dX12_frees_65 67 rfl 0 rfl ?_
    exact x_iret C (hE _ (Option.some.inj hf).symm) dX12_frees_67
  · have hf := (if_pos hc).symm.trans hf
    refine x_iconst C dX12_frees_4 5 rfl 1 (by decide) ?_
    exact x_iret C (hE _ (Option.some.inj hf).symm) dX12_frees_5
abbrev rmX12_frees_d5 : Room := { frames := 8, cells := 0, slots := 0, locals := 207 }
noncomputable def fLX12_frees_d5_12 (σ : St) (x0 : Nat) (x1 : Int64) (x3 : Int32) (a : Int32 × Int32) : Option ((Int32 × Int32) ⊕ (Int32)) :=
(isO σ x0 11).bind fun _ =>
(fX12_letters σ x0).bind fun w15 =>
if w15 < a.2 then
(some (Sum.inr a.1))
else
(xlet ((6 * x1) + a.2.toInt64) fun v30 =>
(isO σ x0 11).bind fun _ =>
(fX12_endsLeft σ x0 v30).bind fun w37 =>
if w37 = 0 then
((isO σ x0 11).bind fun _ =>
(fX12_frees_d4 σ x0 v30 (x3 - 1)).bind fun w53 =>
xlet (a.1 + w53) fun v57 =>
xlet (a.2 + 1) fun v59 =>
some (Sum.inl (v57, v59)))
else
(xlet (a.1 + 0) fun v57 =>
xlet (a.2 + 1) fun v59 =>
some (Sum.inl (v57, v59))))
set_option maxHeartbeats 4000000 in
set_option maxRecDepth 100000 in
theorem lpX12_frees_d5_12 {X : xX} {σ : St} {x0 : Nat} {x1 : Int64} {x3 : Int32}  {a0 : Int32 × Int32} {b : Int32} (C : Ok X cX12_frees 8 RX12 rmX12_frees_d5 (some .int)) (hb : iterP (fLX12_frees_d5_12 σ x0 x1 x3) a0 = some b) (hy0 : ∀ s, b = s → V X (0, 0) σ 65 [(4, .int (s))] []) : V X (0, 0) σ 12 [(0, .ref (x0)), (1, .long (x1)), (3, .int (x3)), (4, .int (a0.1)), (5, .int (a0.2))] [] := by
  obtain ⟨n, hn⟩ := iterP_some hb
  refine x_loop (P := fun a => V X (0, 0) σ 12 [(0, .ref (x0)), (1, .long (x1)), (3, .int (x3)), (4, .int (a.1)), (5, .int (a.2))] []) ?_ n a0 hn
  intro a c hf hK hxx
  have hx0 : ∀ s, c = Sum.inr s → V X (0, 0) σ 65 [(4, .int (s))] [] := fun s e => hy0 s (hxx _ e).symm
  unfold fLX12_frees_d5_12 at hf
  refine x_iload C dX12_frees_12 14 rfl 4 rfl ?_
  refine x_aload_n C dX12_frees_14 15 rfl 0 rfl rfl ?_
  obtain ⟨o15, ho15, hf⟩ := x_bind hf
  obtain ⟨w15, hw15, hf⟩ := x_bind hf
  refine x_callVi C dX12_frees_15 18 rfl ho15 cl11.1 rfl (cX12_lettersc hw15) kX12_letters kvX12_letters w1860 ⟨rfl, rfl⟩ ⟨Nat.le_of_ble_eq_true rfl, Nat.le_of_ble_eq_true rfl⟩ ⟨Nat.zero_le _, Nat.zero_le _⟩ rfl rfl (Nat.le_of_ble_eq_true rfl) ?_
  refine x_icmp_gt C dX12_frees_18 65 (by decide) 21 rfl (fun hc => ?_) (fun hc => ?_)
  · have hf := (if_pos hc).symm.trans hf
    refine x_lv [3] (lv' := [(4, .int (a.1))]) rfl ?_
    exact hx0 _ (Option.some.inj hf).symm
  · have hf := (if_neg hc).symm.trans hf
    refine x_ldc2 C dX12_frees_21 24 rfl w1704 ?_
    refine x_lload_n C dX12_frees_24 25 rfl 1 rfl rfl ?_
    refine x_lmul C dX12_frees_25 26 rfl ?_
    refine x_iload C dX12_frees_26 28 rfl 4 rfl ?_
    refine x_i2l C dX12_frees_28 29 rfl ?_
    refine x_ladd C dX12_frees_29 30 rfl ?_
    obtain ⟨v30, ev30, hf⟩ := xlet_some hf
    refine x_topl ev30 ?_
    refine x_lstore C dX12_frees_30 32 rfl rfl [(6, .long (v30)), (0, .ref (x0)), (1, .long (x1)), (3, .int (x3)), (4, .int (a.1)), (5, .int (a.2))] rfl ?_
    refine x_iload C dX12_frees_32 34 rfl 4 rfl ?_
    refine x_aload_n C dX12_frees_34 35 rfl 1 rfl rfl ?_
    refine x_lload C dX12_frees_35 37 rfl 0 rfl ?_
    obtain ⟨o37, ho37, hf⟩ := x_bind hf
    obtain ⟨w37, hw37, hf⟩ := x_bind hf
    refine x_callVi C dX12_frees_37 40 rfl ho37 cl11.1 rfl (cX12_endsLeftc hw37) kX12_endsLeft kvX12_endsLeft w1922 ⟨rfl, rfl⟩ ⟨Nat.le_of_ble_eq_true rfl, Nat.le_of_ble_eq_true rfl⟩ ⟨Nat.zero_le _, Nat.zero_le _⟩ rfl rfl (Nat.le_of_ble_eq_true rfl) ?_
    refine x_if_eq C dX12_frees_40 47 (by decide) 43 rfl (fun hc => ?_) (fun hc => ?_)
    · have hf := (if_pos hc).symm.trans hf
      refine x_aload_n C dX12_frees_47 48 rfl 1 rfl rfl ?_
      refine x_lload C dX12_frees_48 50 rfl 0 rfl ?_
      refine x_iload_n C dX12_frees_50 51 rfl 3 rfl rfl ?_
      refine x_iconst C dX12_frees_51 52 rfl 1 (by decide) ?_
      refine x_isub C dX12_frees_52 53 rfl ?_
      obtain ⟨o53, ho53, hf⟩ := x_bind hf
      obtain ⟨w53, hw53, hf⟩ := x_bind hf
      refine x_callVi C dX12_frees_53 56 rfl ho53 cl11.1 rfl (cX12_frees_d4c hw53) kX12_frees kvX12_frees w1918 ⟨rfl, rfl⟩ ⟨Nat.le_of_ble_eq_true rfl, Nat.le_of_ble_eq_true rfl⟩ ⟨Nat.zero_le _, Nat.zero_le _⟩ rfl rfl (Nat.le_of_ble_eq_true rfl) ?_
      refine x_iadd C dX12_frees_56 57 rfl ?_
      obtain ⟨v57, ev57, hf⟩ := xlet_some hf
      refine x_topi ev57 ?_
      refine x_istore C dX12_frees_57 59 rfl rfl [(4, .int (v57)), (6, .long (v30)), (0, .ref (x0)), (1, .long (x1)), (3, .int (x3)), (5, .int (a.2))] rfl ?_
      obtain ⟨v59, ev59, hf⟩ := xlet_some hf
      refine x_iinc C dX12_frees_59 62 rfl 5 rfl v59 ev59 rfl [(5, .int (v59)), (4, .int (v57)), (6, .long (v30)), (0, .ref (x0)), (1, .long (x1)), (3, .int (x3))] rfl ?_
      refine x_goto C dX12_frees_62 12 (by decide) ?_
      refine x_lv [3, 4, 5, 1, 0] (lv' := [(0, .ref (x0)), (1, .long (x1)), (3, .int (x3)), (4, .int (v57)), (5, .int (v59))]) rfl ?_
      exact hK _ (Option.some.inj hf).symm
    · have hf := (if_neg hc).symm.trans hf
      refine x_iconst C dX12_frees_43 44 rfl 0 (by decide) ?_
      refine x_goto C dX12_frees_44 56 (by decide) ?_
      refine x_iadd C dX12_frees_56 57 rfl ?_
      obtain ⟨v57, ev57, hf⟩ := xlet_some hf
      refine x_topi ev57 ?_
      refine x_istore C dX12_frees_57 59 rfl rfl [(4, .int (v57)), (6, .long (v30)), (0, .ref (x0)), (1, .long (x1)), (3, .int (x3)), (5, .int (a.2))] rfl ?_
      obtain ⟨v59, ev59, hf⟩ := xlet_some hf
      refine x_iinc C dX12_frees_59 62 rfl 5 rfl v59 ev59 rfl [(5, .int (v59)), (4, .int (v57)), (6, .long (v30)), (0, .ref (x0)), (1, .long (x1)), (3, .int (x3))] rfl ?_
      refine x_goto C dX12_frees_62 12 (by decide) ?_
      refine x_lv [3, 4, 5, 1, 0] (lv' := [(0, .ref (x0)), (1, .long (x1)), (3, .int (x3)), (4, .int (v57)), (5, .int (v59))]) rfl ?_
      exact hK _ (Option.some.inj hf).symm
noncomputable def fX12_frees_d5 (σ : St) (x0 : Nat) (x1 : Int64) (x3 : Int32) : Option (Int32) :=
if x3 = 0 then
(some 1)
else
((iterP (fLX12_frees_d5_12 σ x0 x1 x3) (0, 1)).bind fun b12 =>
some b12)
set_option maxHeartbeats 4000000 in
set_option maxRecDepth 100000 in
theorem cX12_frees_d5c {l : Launch} {G : xG} {A : Nat → Prop} {σ : St} {x0 : Nat} {x1 : Int64} {x3 : Int32} {c : Int32} (hf : fX12_frees_d5 σ x0 x1 x3 = some c) : Con l yX12_frees (xws yX12_frees cX12_frees 8 (some .int)) rmX12_frees_d5 [.ref (x0), .long (x1), .int (x3)] G A σ (some (.int c)) σ := by
  refine x_start rfl (Nat.le_of_ble_eq_true rfl) (fun X _ _ _ C hE0 => ?_)
  have hE : ∀ r, c = r → xE1 X (some (.int r)) σ := fun r e => e ▸ hE0
  show V X (0, 0) σ 0 [(0, .ref (x0)), (1, .long (x1)), (3, .int (x3))] []
  unfold fX12_frees_d5 at hf
  refine x_iload_n C dX12_frees_0 1 rfl 2 rfl rfl ?_
  refine x_if_ne C dX12_frees_1 6 (by decide) 4 rfl (fun hc => ?_) (fun hc => ?_)
  · have hf := (if_neg hc).symm.trans hf
    refine x_iconst C dX12_frees_6 7 rfl 0 (by decide) ?_
    refine x_istore C dX12_frees_7 9 rfl rfl [(4, .int (0)), (0, .ref (x0)), (1, .long (x1)), (3, .int (x3))] rfl ?_
    refine x_iconst C dX12_frees_9 10 rfl 1 (by decide) ?_
    refine x_istore C dX12_frees_10 12 rfl rfl [(5, .int (1)), (4, .int (0)), (0, .ref (x0)), (1, .long (x1)), (3, .int (x3))] rfl ?_
    obtain ⟨b12, hb12, hf⟩ := x_bind hf
    refine x_lv [2, 3, 4, 1, 0] (lv' := [(0, .ref (x0)), (1, .long (x1)), (3, .int (x3)), (4, .int (0)), (5, .int (1))]) rfl ?_
    refine lpX12_frees_d5_12 C hb12 (fun s12 e12 => ?_)
    subst e12
    refine x_iload C dX12_frees_65 67 rfl 0 rfl ?_
    exact x_iret C (hE _ (Option.some.inj hf).symm) dX12_frees_67
  · have hf := (if_pos hc).symm.trans hf
    refine x_iconst C dX12_frees_4 5 rfl 1 (by decide) ?_
    exact x_iret C (hE _ (Option.some.inj hf).symm) dX12_frees_5
abbrev rmX12_frees_d6 : Room := { frames := 9, cells := 0, slots := 0, locals := 234 }
noncomputable def fLX12_frees_d6_12 (σ : St) (x0 : Nat) (x1 : Int64) (x3 : Int32) (a : Int32 × Int32) : Option ((Int32 × Int32) ⊕ (Int32)) :=
(isO σ x0 11).bind fun _ =>
(fX12_letters σ x0).bind fun w15 =>
if w15 < a.2 then
(some (Sum.inr a.1))
else
(xlet ((6 * x1) + a.2.toInt64) fun v30 =>
(isO σ x0 11).bind fun _ =>
(fX12_endsLeft σ x0 v30).bind fun w37 =>
if w37 = 0 then
((isO σ x0 11).bind fun _ =>
(fX12_frees_d5 σ x0 v30 (x3 - 1)).bind fun w53 =>
xlet (a.1 + w53) fun v57 =>
xlet (a.2 + 1) fun v59 =>
some (Sum.inl (v57, v59)))
else
(xlet (a.1 + 0) fun v57 =>
xlet (a.2 + 1) fun v59 =>
some (Sum.inl (v57, v59))))
set_option maxHeartbeats 4000000 in
set_option maxRecDepth 100000 in
theorem lpX12_frees_d6_12 {X : xX} {σ : St} {x0 : Nat} {x1 : Int64} {x3 : Int32}  {a0 : Int32 × Int32} {b : Int32} (C : Ok X cX12_frees 8 RX12 rmX12_frees_d6 (some .int)) (hb : iterP (fLX12_frees_d6_12 σ x0 x1 x3) a0 = some b) (hy0 : ∀ s, b = s → V X (0, 0) σ 65 [(4, .int (s))] []) : V X (0, 0) σ 12 [(0, .ref (x0)), (1, .long (x1)), (3, .int (x3)), (4, .int (a0.1)), (5, .int (a0.2))] [] := by
  obtain ⟨n, hn⟩ := iterP_some hb
  refine x_loop (P := fun a => V X (0, 0) σ 12 [(0, .ref (x0)), (1, .long (x1)), (3, .int (x3)), (4, .int (a.1)), (5, .int (a.2))] []) ?_ n a0 hn
  intro a c hf hK hxx
  have hx0 : ∀ s, c = Sum.inr s → V X (0, 0) σ 65 [(4, .int (s))] [] := fun s e => hy0 s (hxx _ e).symm
  unfold fLX12_frees_d6_12 at hf
  refine x_iload C dX12_frees_12 14 rfl 4 rfl ?_
  refine x_aload_n C dX12_frees_14 15 rfl 0 rfl rfl ?_
  obtain ⟨o15, ho15, hf⟩ := x_bind hf
  obtain ⟨w15, hw15, hf⟩ := x_bind hf
  refine x_callVi C dX12_frees_15 18 rfl ho15 cl11.1 rfl (cX12_lettersc hw15) kX12_letters kvX12_letters w1860 ⟨rfl, rfl⟩ ⟨Nat.le_of_ble_eq_true rfl, Nat.le_of_ble_eq_true rfl⟩ ⟨Nat.zero_le _, Nat.zero_le _⟩ rfl rfl (Nat.le_of_ble_eq_true rfl) ?_
  refine x_icmp_gt C dX12_frees_18 65 (by decide) 21 rfl (fun hc => ?_) (fun hc => ?_)
  · have hf := (if_pos hc).symm.trans hf
    refine x_lv [3] (lv' := [(4, .int (a.1))]) rfl ?_
    exact hx0 _ (Option.some.inj hf).symm
  · have hf := (if_neg hc).symm.trans hf
    refine x_ldc2 C dX12_frees_21 24 rfl w1704 ?_
    refine x_lload_n C dX12_frees_24 25 rfl 1 rfl rfl ?_
    refine x_lmul C dX12_frees_25 26 rfl ?_
    refine x_iload C dX12_frees_26 28 rfl 4 rfl ?_
    refine x_i2l C dX12_frees_28 29 rfl ?_
    refine x_ladd C dX12_frees_29 30 rfl ?_
    obtain ⟨v30, ev30, hf⟩ := xlet_some hf
    refine x_topl ev30 ?_
    refine x_lstore C dX12_frees_30 32 rfl rfl [(6, .long (v30)), (0, .ref (x0)), (1, .long (x1)), (3, .int (x3)), (4, .int (a.1)), (5, .int (a.2))] rfl ?_
    refine x_iload C dX12_frees_32 34 rfl 4 rfl ?_
    refine x_aload_n C dX12_frees_34 35 rfl 1 rfl rfl ?_
    refine x_lload C dX12_frees_35 37 rfl 0 rfl ?_
    obtain ⟨o37, ho37, hf⟩ := x_bind hf
    obtain ⟨w37, hw37, hf⟩ := x_bind hf
    refine x_callVi C dX12_frees_37 40 rfl ho37 cl11.1 rfl (cX12_endsLeftc hw37) kX12_endsLeft kvX12_endsLeft w1922 ⟨rfl, rfl⟩ ⟨Nat.le_of_ble_eq_true rfl, Nat.le_of_ble_eq_true rfl⟩ ⟨Nat.zero_le _, Nat.zero_le _⟩ rfl rfl (Nat.le_of_ble_eq_true rfl) ?_
    refine x_if_eq C dX12_frees_40 47 (by decide) 43 rfl (fun hc => ?_) (fun hc => ?_)
    · have hf := (if_pos hc).symm.trans hf
      refine x_aload_n C dX12_frees_47 48 rfl 1 rfl rfl ?_
      refine x_lload C dX12_frees_48 50 rfl 0 rfl ?_
      refine x_iload_n C dX12_frees_50 51 rfl 3 rfl rfl ?_
      refine x_iconst C dX12_frees_51 52 rfl 1 (by decide) ?_
      refine x_isub C dX12_frees_52 53 rfl ?_
      obtain ⟨o53, ho53, hf⟩ := x_bind hf
      obtain ⟨w53, hw53, hf⟩ := x_bind hf
      refine x_callVi C dX12_frees_53 56 rfl ho53 cl11.1 rfl (cX12_frees_d5c hw53) kX12_frees kvX12_frees w1918 ⟨rfl, rfl⟩ ⟨Nat.le_of_ble_eq_true rfl, Nat.le_of_ble_eq_true rfl⟩ ⟨Nat.zero_le _, Nat.zero_le _⟩ rfl rfl (Nat.le_of_ble_eq_true rfl) ?_
      refine x_iadd C dX12_frees_56 57 rfl ?_
      obtain ⟨v57, ev57, hf⟩ := xlet_some hf
      refine x_topi ev57 ?_
      refine x_istore C dX12_frees_57 59 rfl rfl [(4, .int (v57)), (6, .long (v30)), (0, .ref (x0)), (1, .long (x1)), (3, .int (x3)), (5, .int (a.2))] rfl ?_
      obtain ⟨v59, ev59, hf⟩ := xlet_some hf
      refine x_iinc C dX12_frees_59 62 rfl 5 rfl v59 ev59 rfl [(5, .int (v59)), (4, .int (v57)), (6, .long (v30)), (0, .ref (x0)), (1, .long (x1)), (3, .int (x3))] rfl ?_
      refine x_goto C dX12_frees_62 12 (by decide) ?_
      refine x_lv [3, 4, 5, 1, 0] (lv' := [(0, .ref (x0)), (1, .long (x1)), (3, .int (x3)), (4, .int (v57)), (5, .int (v59))]) rfl ?_
      exact hK _ (Option.some.inj hf).symm
    · have hf := (if_neg hc).symm.trans hf
      refine x_iconst C dX12_frees_43 44 rfl 0 (by decide) ?_
      refine x_goto C dX12_frees_44 56 (by decide) ?_
      refine x_iadd C dX12_frees_56 57 rfl ?_
      obtain ⟨v57, ev57, hf⟩ := xlet_some hf
      refine x_topi ev57 ?_
      refine x_istore C dX12_frees_57 59 rfl rfl [(4, .int (v57)), (6, .long (v30)), (0, .ref (x0)), (1, .long (x1)), (3, .int (x3)), (5, .int (a.2))] rfl ?_
      obtain ⟨v59, ev59, hf⟩ := xlet_some hf
      refine x_iinc C dX12_frees_59 62 rfl 5 rfl v59 ev59 rfl [(5, .int (v59)), (4, .int (v57)), (6, .long (v30)), (0, .ref (x0)), (1, .long (x1)), (3, .int (x3))] rfl ?_
      refine x_goto C dX12_frees_62 12 (by decide) ?_
      refine x_lv [3, 4, 5, 1, 0] (lv' := [(0, .ref (x0)), (1, .long (x1)), (3, .int (x3)), (4, .int (v57)), (5, .int (v59))]) rfl ?_
      exact hK _ (Option.some.inj hf).symm
noncomputable def fX12_frees_d6 (σ : St) (x0 : Nat) (x1 : Int64) (x3 : Int32) : Option (Int32) :=
if x3 = 0 then
(some 1)
else
((iterP (fLX12_frees_d6_12 σ x0 x1 x3) (0, 1)).bind fun b12 =>
some b12)
set_option maxHeartbeats 4000000 in
set_option maxRecDepth 100000 in
theorem cX12_frees_d6c {l : Launch} {G : xG} {A : Nat → Prop} {σ : St} {x0 : Nat} {x1 : Int64} {x3 : Int32} {c : Int32} (hf : fX12_frees_d6 σ x0 x1 x3 = some c) : Con l yX12_frees (xws yX12_frees cX12_frees 8 (some .int)) rmX12_frees_d6 [.ref (x0), .long (x1), .int (x3)] G A σ (some (.int c)) σ := by
  refine x_start rfl (Nat.le_of_ble_eq_true rfl) (fun X _ _ _ C hE0 => ?_)
  have hE : ∀ r, c = r → xE1 X (some (.int r)) σ := fun r e => e ▸ hE0
  show V X (0, 0) σ 0 [(0, .ref (x0)), (1, .long (x1)), (3, .int (x3))] []
  unfold fX12_frees_d6 at hf
  refine x_iload_n C dX12_frees_0 1 rfl 2 rfl rfl ?_
  refine x_if_ne C dX12_frees_1 6 (by decide) 4 rfl (fun hc => ?_) (fun hc => ?_)
  · have hf := (if_neg hc).symm.trans hf
    refine x_iconst C dX12_frees_6 7 rfl 0 (by decide) ?_
    refine x_istore C dX12_frees_7 9 rfl rfl [(4, .int (0)), (0, .ref (x0)), (1, .long (x1)), (3, .int (x3))] rfl ?_
    refine x_iconst C dX12_frees_9 10 rfl 1 (by decide) ?_
    refine x_istore C dX12_frees_10 12 rfl rfl [(5, .int (1)), (4, .int (0)), (0, .ref (x0)), (1, .long (x1)), (3, .int (x3))] rfl ?_
    obtain ⟨b12, hb12, hf⟩ := x_bind hf
    refine x_lv [2, 3, 4, 1, 0] (lv' := [(0, .ref (x0)), (1, .long (x1)), (3, .int (x3)), (4, .int (0)), (5, .int (1))]) rfl ?_
    refine lpX12_frees_d6_12 C hb12 (fun s12 e12 => ?_)
    subst e12
    refine x_iload C dX12_frees_65 67 rfl 0 rfl ?_
    exact x_iret C (hE _ (Option.some.inj hf).symm) dX12_frees_67
  · have hf := (if_pos hc).symm.trans hf
    refine x_iconst C dX12_frees_4 5 rfl 1 (by decide) ?_
    exact x_iret C (hE _ (Option.some.inj hf).symm) dX12_frees_5
abbrev rmX12_frees_d7 : Room := { frames := 10, cells := 0, slots := 0, locals := 261 }
noncomputable def fLX12_frees_d7_12 (σ : St) (x0 : Nat) (x1 : Int64) (x3 : Int32) (a : Int32 × Int32) : Option ((Int32 × Int32) ⊕ (Int32)) :=
(isO σ x0 11).bind fun _ =>
(fX12_letters σ x0).bind fun w15 =>
if w15 < a.2 then
(some (Sum.inr a.1))
else
(xlet ((6 * x1) + a.2.toInt64) fun v30 =>
(isO σ x0 11).bind fun _ =>
(fX12_endsLeft σ x0 v30).bind fun w37 =>
if w37 = 0 then
((isO σ x0 11).bind fun _ =>
(fX12_frees_d6 σ x0 v30 (x3 - 1)).bind fun w53 =>
xlet (a.1 + w53) fun v57 =>
xlet (a.2 + 1) fun v59 =>
some (Sum.inl (v57, v59)))
else
(xlet (a.1 + 0) fun v57 =>
xlet (a.2 + 1) fun v59 =>
some (Sum.inl (v57, v59))))
set_option maxHeartbeats 4000000 in
set_option maxRecDepth 100000 in
theorem lpX12_frees_d7_12 {X : xX} {σ : St} {x0 : Nat} {x1 : Int64} {x3 : Int32}  {a0 : Int32 × Int32} {b : Int32} (C : Ok X cX12_frees 8 RX12 rmX12_frees_d7 (some .int)) (hb : iterP (fLX12_frees_d7_12 σ x0 x1 x3) a0 = some b) (hy0 : ∀ s, b = s → V X (0, 0) σ 65 [(4, .int (s))] []) : V X (0, 0) σ 12 [(0, .ref (x0)), (1, .long (x1)), (3, .int (x3)), (4, .int (a0.1)), (5, .int (a0.2))] [] := by
  obtain ⟨n, hn⟩ := iterP_some hb
  refine x_loop (P := fun a => V X (0, 0) σ 12 [(0, .ref (x0)), (1, .long (x1)), (3, .int (x3)), (4, .int (a.1)), (5, .int (a.2))] []) ?_ n a0 hn
  intro a c hf hK hxx
  have hx0 : ∀ s, c = Sum.inr s → V X (0, 0) σ 65 [(4, .int (s))] [] := fun s e => hy0 s (hxx _ e).symm
  unfold fLX12_frees_d7_12 at hf
  refine x_iload C dX12_frees_12 14 rfl 4 rfl ?_
  refine x_aload_n C dX12_frees_14 15 rfl 0 rfl rfl ?_
  obtain ⟨o15, ho15, hf⟩ := x_bind hf
  obtain ⟨w15, hw15, hf⟩ := x_bind hf
  refine x_callVi C dX12_frees_15 18 rfl ho15 cl11.1 rfl (cX12_lettersc hw15) kX12_letters kvX12_letters w1860 ⟨rfl, rfl⟩ ⟨Nat.le_of_ble_eq_true rfl, Nat.le_of_ble_eq_true rfl⟩ ⟨Nat.zero_le _, Nat.zero_le _⟩ rfl rfl (Nat.le_of_ble_eq_true rfl) ?_
  refine x_icmp_gt C dX12_frees_18 65 (by decide) 21 rfl (fun hc => ?_) (fun hc => ?_)
  · have hf := (if_pos hc).symm.trans hf
    refine x_lv [3] (lv' := [(4, .int (a.1))]) rfl ?_
    exact hx0 _ (Option.some.inj hf).symm
  · have hf := (if_neg hc).symm.trans hf
    refine x_ldc2 C dX12_frees_21 24 rfl w1704 ?_
    refine x_lload_n C dX12_frees_24 25 rfl 1 rfl rfl ?_
    refine x_lmul C dX12_frees_25 26 rfl ?_
    refine x_iload C dX12_frees_26 28 rfl 4 rfl ?_
    refine x_i2l C dX12_frees_28 29 rfl ?_
    refine x_ladd C dX12_frees_29 30 rfl ?_
    obtain ⟨v30, ev30, hf⟩ := xlet_some hf
    refine x_topl ev30 ?_
    refine x_lstore C dX12_frees_30 32 rfl rfl [(6, .long (v30)), (0, .ref (x0)), (1, .long (x1)), (3, .int (x3)), (4, .int (a.1)), (5, .int (a.2))] rfl ?_
    refine x_iload C dX12_frees_32 34 rfl 4 rfl ?_
    refine x_aload_n C dX12_frees_34 35 rfl 1 rfl rfl ?_
    refine x_lload C dX12_frees_35 37 rfl 0 rfl ?_
    obtain ⟨o37, ho37, hf⟩ := x_bind hf
    obtain ⟨w37, hw37, hf⟩ := x_bind hf
    refine x_callVi C dX12_frees_37 40 rfl ho37 cl11.1 rfl (cX12_endsLeftc hw37) kX12_endsLeft kvX12_endsLeft w1922 ⟨rfl, rfl⟩ ⟨Nat.le_of_ble_eq_true rfl, Nat.le_of_ble_eq_true rfl⟩ ⟨Nat.zero_le _, Nat.zero_le _⟩ rfl rfl (Nat.le_of_ble_eq_true rfl) ?_
    refine x_if_eq C dX12_frees_40 47 (by decide) 43 rfl (fun hc => ?_) (fun hc => ?_)
    · have hf := (if_pos hc).symm.trans hf
      refine x_aload_n C dX12_frees_47 48 rfl 1 rfl rfl ?_
      refine x_lload C dX12_frees_48 50 rfl 0 rfl ?_
      refine x_iload_n C dX12_frees_50 51 rfl 3 rfl rfl ?_
      refine x_iconst C dX12_frees_51 52 rfl 1 (by decide) ?_
      refine x_isub C dX12_frees_52 53 rfl ?_
      obtain ⟨o53, ho53, hf⟩ := x_bind hf
      obtain ⟨w53, hw53, hf⟩ := x_bind hf
      refine x_callVi C dX12_frees_53 56 rfl ho53 cl11.1 rfl (cX12_frees_d6c hw53) kX12_frees kvX12_frees w1918 ⟨rfl, rfl⟩ ⟨Nat.le_of_ble_eq_true rfl, Nat.le_of_ble_eq_true rfl⟩ ⟨Nat.zero_le _, Nat.zero_le _⟩ rfl rfl (Nat.le_of_ble_eq_true rfl) ?_
      refine x_iadd C dX12_frees_56 57 rfl ?_
      obtain ⟨v57, ev57, hf⟩ := xlet_some hf
      refine x_topi ev57 ?_
      refine x_istore C dX12_frees_57 59 rfl rfl [(4, .int (v57)), (6, .long (v30)), (0, .ref (x0)), (1, .long (x1)), (3, .int (x3)), (5, .int (a.2))] rfl ?_
      obtain ⟨v59, ev59, hf⟩ := xlet_some hf
      refine x_iinc C dX12_frees_59 62 rfl 5 rfl v59 ev59 rfl [(5, .int (v59)), (4, .int (v57)), (6, .long (v30)), (0, .ref (x0)), (1, .long (x1)), (3, .int (x3))] rfl ?_
      refine x_goto C dX12_frees_62 12 (by decide) ?_
      refine x_lv [3, 4, 5, 1, 0] (lv' := [(0, .ref (x0)), (1, .long (x1)), (3, .int (x3)), (4, .int (v57)), (5, .int (v59))]) rfl ?_
      exact hK _ (Option.some.inj hf).symm
    · have hf := (if_neg hc).symm.trans hf
      refine x_iconst C dX12_frees_43 44 rfl 0 (by decide) ?_
      refine x_goto C dX12_frees_44 56 (by decide) ?_
      refine x_iadd C dX12_frees_56 57 rfl ?_
      obtain ⟨v57, ev57, hf⟩ := xlet_some hf
      refine x_topi ev57 ?_
      refine x_istore C dX12_frees_57 59 rfl rfl [(4, .int (v57)), (6, .long (v30)), (0, .ref (x0)), (1, .long (x1)), (3, .int (x3)), (5, .int (a.2))] rfl ?_
      obtain ⟨v59, ev59, hf⟩ := xlet_some hf
      refine x_iinc C dX12_frees_59 62 rfl 5 rfl v59 ev59 rfl [(5, .int (v59)), (4, .int (v57)), (6, .long (v30)), (0, .ref (x0)), (1, .long (x1)), (3, .int (x3))] rfl ?_
      refine x_goto C dX12_frees_62 12 (by decide) ?_
      refine x_lv [3, 4, 5, 1, 0] (lv' := [(0, .ref (x0)), (1, .long (x1)), (3, .int (x3)), (4, .int (v57)), (5, .int (v59))]) rfl ?_
      exact hK _ (Option.some.inj hf).symm
noncomputable def fX12_frees_d7 (σ : St) (x0 : Nat) (x1 : Int64) (x3 : Int32) : Option (Int32) :=
if x3 = 0 then
(some 1)
else
((iterP (fLX12_frees_d7_12 σ x0 x1 x3) (0, 1)).bind fun b12 =>
some b12)
set_option maxHeartbeats 4000000 in
set_option maxRecDepth 100000 in
theorem cX12_frees_d7c {l : Launch} {G : xG} {A : Nat → Prop} {σ : St} {x0 : Nat} {x1 : Int64} {x3 : Int32} {c : Int32} (hf : fX12_frees_d7 σ x0 x1 x3 = some c) : Con l yX12_frees (xws yX12_frees cX12_frees 8 (some .int)) rmX12_frees_d7 [.ref (x0), .long (x1), .int (x3)] G A σ (some (.int c)) σ := by
  refine x_start rfl (Nat.le_of_ble_eq_true rfl) (fun X _ _ _ C hE0 => ?_)
  have hE : ∀ r, c = r → xE1 X (some (.int r)) σ := fun r e => e ▸ hE0
  show V X (0, 0) σ 0 [(0, .ref (x0)), (1, .long (x1)), (3, .int (x3))] []
  unfold fX12_frees_d7 at hf
  refine x_iload_n C dX12_frees_0 1 rfl 2 rfl rfl ?_
  refine x_if_ne C dX12_frees_1 6 (by decide) 4 rfl (fun hc => ?_) (fun hc => ?_)
  · have hf := (if_neg hc).symm.trans hf
    refine x_iconst C dX12_frees_6 7 rfl 0 (by decide) ?_
    refine x_istore C dX12_frees_7 9 rfl rfl [(4, .int (0)), (0, .ref (x0)), (1, .long (x1)), (3, .int (x3))] rfl ?_
    refine x_iconst C dX12_frees_9 10 rfl 1 (by decide) ?_
    refine x_istore C dX12_frees_10 12 rfl rfl [(5, .int (1)), (4, .int (0)), (0, .ref (x0)), (1, .long (x1)), (3, .int (x3))] rfl ?_
    obtain ⟨b12, hb12, hf⟩ := x_bind hf
    refine x_lv [2, 3, 4, 1, 0] (lv' := [(0, .ref (x0)), (1, .long (x1)), (3, .int (x3)), (4, .int (0)), (5, .int (1))]) rfl ?_
    refine lpX12_frees_d7_12 C hb12 (fun s12 e12 => ?_)
    subst e12
    refine x_iload C dX12_frees_65 67 rfl 0 rfl ?_
    exact x_iret C (hE _ (Option.some.inj hf).symm) dX12_frees_67
  · have hf := (if_pos hc).symm.trans hf
    refine x_iconst C dX12_frees_4 5 rfl 1 (by decide) ?_
    exact x_iret C (hE _ (Option.some.inj hf).symm) dX12_frees_5
abbrev rmX12_frees_d8 : Room := { frames := 11, cells := 0, slots := 0, locals := 288 }
noncomputable def fLX12_frees_d8_12 (σ : St) (x0 : Nat) (x1 : Int64) (x3 : Int32) (a : Int32 × Int32) : Option ((Int32 × Int32) ⊕ (Int32)) :=
(isO σ x0 11).bind fun _ =>
(fX12_letters σ x0).bind fun w15 =>
if w15 < a.2 then
(some (Sum.inr a.1))
else
(xlet ((6 * x1) + a.2.toInt64) fun v30 =>
(isO σ x0 11).bind fun _ =>
(fX12_endsLeft σ x0 v30).bind fun w37 =>
if w37 = 0 then
((isO σ x0 11).bind fun _ =>
(fX12_frees_d7 σ x0 v30 (x3 - 1)).bind fun w53 =>
xlet (a.1 + w53) fun v57 =>
xlet (a.2 + 1) fun v59 =>
some (Sum.inl (v57, v59)))
else
(xlet (a.1 + 0) fun v57 =>
xlet (a.2 + 1) fun v59 =>
some (Sum.inl (v57, v59))))
set_option maxHeartbeats 4000000 in
set_option maxRecDepth 100000 in
theorem lpX12_frees_d8_12 {X : xX} {σ : St} {x0 : Nat} {x1 : Int64} {x3 : Int32}  {a0 : Int32 × Int32} {b : Int32} (C : Ok X cX12_frees 8 RX12 rmX12_frees_d8 (some .int)) (hb : iterP (fLX12_frees_d8_12 σ x0 x1 x3) a0 = some b) (hy0 : ∀ s, b = s → V X (0, 0) σ 65 [(4, .int (s))] []) : V X (0, 0) σ 12 [(0, .ref (x0)), (1, .long (x1)), (3, .int (x3)), (4, .int (a0.1)), (5, .int (a0.2))] [] := by
  obtain ⟨n, hn⟩ := iterP_some hb
  refine x_loop (P := fun a => V X (0, 0) σ 12 [(0, .ref (x0)), (1, .long (x1)), (3, .int (x3)), (4, .int (a.1)), (5, .int (a.2))] []) ?_ n a0 hn
  intro a c hf hK hxx
  have hx0 : ∀ s, c = Sum.inr s → V X (0, 0) σ 65 [(4, .int (s))] [] := fun s e => hy0 s (hxx _ e).symm
  unfold fLX12_frees_d8_12 at hf
  refine x_iload C dX12_frees_12 14 rfl 4 rfl ?_
  refine x_aload_n C dX12_frees_14 15 rfl 0 rfl rfl ?_
  obtain ⟨o15, ho15, hf⟩ := x_bind hf
  obtain ⟨w15, hw15, hf⟩ := x_bind hf
  refine x_callVi C dX12_frees_15 18 rfl ho15 cl11.1 rfl (cX12_lettersc hw15) kX12_letters kvX12_letters w1860 ⟨rfl, rfl⟩ ⟨Nat.le_of_ble_eq_true rfl, Nat.le_of_ble_eq_true rfl⟩ ⟨Nat.zero_le _, Nat.zero_le _⟩ rfl rfl (Nat.le_of_ble_eq_true rfl) ?_
  refine x_icmp_gt C dX12_frees_18 65 (by decide) 21 rfl (fun hc => ?_) (fun hc => ?_)
  · have hf := (if_pos hc).symm.trans hf
    refine x_lv [3] (lv' := [(4, .int (a.1))]) rfl ?_
    exact hx0 _ (Option.some.inj hf).symm
  · have hf := (if_neg hc).symm.trans hf
    refine x_ldc2 C dX12_frees_21 24 rfl w1704 ?_
    refine x_lload_n C dX12_frees_24 25 rfl 1 rfl rfl ?_
    refine x_lmul C dX12_frees_25 26 rfl ?_
    refine x_iload C dX12_frees_26 28 rfl 4 rfl ?_
    refine x_i2l C dX12_frees_28 29 rfl ?_
    refine x_ladd C dX12_frees_29 30 rfl ?_
    obtain ⟨v30, ev30, hf⟩ := xlet_some hf
    refine x_topl ev30 ?_
    refine x_lstore C dX12_frees_30 32 rfl rfl [(6, .long (v30)), (0, .ref (x0)), (1, .long (x1)), (3, .int (x3)), (4, .int (a.1)), (5, .int (a.2))] rfl ?_
    refine x_iload C dX12_frees_32 34 rfl 4 rfl ?_
    refine x_aload_n C dX12_frees_34 35 rfl 1 rfl rfl ?_
    refine x_lload C dX12_frees_35 37 rfl 0 rfl ?_
    obtain ⟨o37, ho37, hf⟩ := x_bind hf
    obtain ⟨w37, hw37, hf⟩ := x_bind hf
    refine x_callVi C dX12_frees_37 40 rfl ho37 cl11.1 rfl (cX12_endsLeftc hw37) kX12_endsLeft kvX12_endsLeft w1922 ⟨rfl, rfl⟩ ⟨Nat.le_of_ble_eq_true rfl, Nat.le_of_ble_eq_true rfl⟩ ⟨Nat.zero_le _, Nat.zero_le _⟩ rfl rfl (Nat.le_of_ble_eq_true rfl) ?_
    refine x_if_eq C dX12_frees_40 47 (by decide) 43 rfl (fun hc => ?_) (fun hc => ?_)
    · have hf := (if_pos hc).symm.trans hf
      refine x_aload_n C dX12_frees_47 48 rfl 1 rfl rfl ?_
      refine x_lload C dX12_frees_48 50 rfl 0 rfl ?_
      refine x_iload_n C dX12_frees_50 51 rfl 3 rfl rfl ?_
      refine x_iconst C dX12_frees_51 52 rfl 1 (by decide) ?_
      refine x_isub C dX12_frees_52 53 rfl ?_
      obtain ⟨o53, ho53, hf⟩ := x_bind hf
      obtain ⟨w53, hw53, hf⟩ := x_bind hf
      refine x_callVi C dX12_frees_53 56 rfl ho53 cl11.1 rfl (cX12_frees_d7c hw53) kX12_frees kvX12_frees w1918 ⟨rfl, rfl⟩ ⟨Nat.le_of_ble_eq_true rfl, Nat.le_of_ble_eq_true rfl⟩ ⟨Nat.zero_le _, Nat.zero_le _⟩ rfl rfl (Nat.le_of_ble_eq_true rfl) ?_
      refine x_iadd C dX12_frees_56 57 rfl ?_
      obtain ⟨v57, ev57, hf⟩ := xlet_some hf
      refine x_topi ev57 ?_
      refine x_istore C dX12_frees_57 59 rfl rfl [(4, .int (v57)), (6, .long (v30)), (0, .ref (x0)), (1, .long (x1)), (3, .int (x3)), (5, .int (a.2))] rfl ?_
      obtain ⟨v59, ev59, hf⟩ := xlet_some hf
      refine x_iinc C dX12_frees_59 62 rfl 5 rfl v59 ev59 rfl [(5, .int (v59)), (4, .int (v57)), (6, .long (v30)), (0, .ref (x0)), (1, .long (x1)), (3, .int (x3))] rfl ?_
      refine x_goto C dX12_frees_62 12 (by decide) ?_
      refine x_lv [3, 4, 5, 1, 0] (lv' := [(0, .ref (x0)), (1, .long (x1)), (3, .int (x3)), (4, .int (v57)), (5, .int (v59))]) rfl ?_
      exact hK _ (Option.some.inj hf).symm
    · have hf := (if_neg hc).symm.trans hf
      refine x_iconst C dX12_frees_43 44 rfl 0 (by decide) ?_
      refine x_goto C dX12_frees_44 56 (by decide) ?_
      refine x_iadd C dX12_frees_56 57 rfl ?_
      obtain ⟨v57, ev57, hf⟩ := xlet_some hf
      refine x_topi ev57 ?_
      refine x_istore C dX12_frees_57 59 rfl rfl [(4, .int (v57)), (6, .long (v30)), (0, .ref (x0)), (1, .long (x1)), (3, .int (x3)), (5, .int (a.2))] rfl ?_
      obtain ⟨v59, ev59, hf⟩ := xlet_some hf
      refine x_iinc C dX12_frees_59 62 rfl 5 rfl v59 ev59 rfl [(5, .int (v59)), (4, .int (v57)), (6, .long (v30)), (0, .ref (x0)), (1, .long (x1)), (3, .int (x3))] rfl ?_
      refine x_goto C dX12_frees_62 12 (by decide) ?_
      refine x_lv [3, 4, 5, 1, 0] (lv' := [(0, .ref (x0)), (1, .long (x1)), (3, .int (x3)), (4, .int (v57)), (5, .int (v59))]) rfl ?_
      exact hK _ (Option.some.inj hf).symm
noncomputable def fX12_frees_d8 (σ : St) (x0 : Nat) (x1 : Int64) (x3 : Int32) : Option (Int32) :=
if x3 = 0 then
(some 1)
else
((iterP (fLX12_frees_d8_12 σ x0 x1 x3) (0, 1)).bind fun b12 =>
some b12)
set_option maxHeartbeats 4000000 in
set_option maxRecDepth 100000 in
theorem cX12_frees_d8c {l : Launch} {G : xG} {A : Nat → Prop} {σ : St} {x0 : Nat} {x1 : Int64} {x3 : Int32} {c : Int32} (hf : fX12_frees_d8 σ x0 x1 x3 = some c) : Con l yX12_frees (xws yX12_frees cX12_frees 8 (some .int)) rmX12_frees_d8 [.ref (x0), .long (x1), .int (x3)] G A σ (some (.int c)) σ := by
  refine x_start rfl (Nat.le_of_ble_eq_true rfl) (fun X _ _ _ C hE0 => ?_)
  have hE : ∀ r, c = r → xE1 X (some (.int r)) σ := fun r e => e ▸ hE0
  show V X (0, 0) σ 0 [(0, .ref (x0)), (1, .long (x1)), (3, .int (x3))] []
  unfold fX12_frees_d8 at hf
  refine x_iload_n C dX12_frees_0 1 rfl 2 rfl rfl ?_
  refine x_if_ne C dX12_frees_1 6 (by decide) 4 rfl (fun hc => ?_) (fun hc => ?_)
  · have hf := (if_neg hc).symm.trans hf
    refine x_iconst C dX12_frees_6 7 rfl 0 (by decide) ?_
    refine x_istore C dX12_frees_7 9 rfl rfl [(4, .int (0)), (0, .ref (x0)), (1, .long (x1)), (3, .int (x3))] rfl ?_
    refine x_iconst C dX12_frees_9 10 rfl 1 (by decide) ?_
    refine x_istore C dX12_frees_10 12 rfl rfl [(5, .int (1)), (4, .int (0)), (0, .ref (x0)), (1, .long (x1)), (3, .int (x3))] rfl ?_
    obtain ⟨b12, hb12, hf⟩ := x_bind hf
    refine x_lv [2, 3, 4, 1, 0] (lv' := [(0, .ref (x0)), (1, .long (x1)), (3, .int (x3)), (4, .int (0)), (5, .int (1))]) rfl ?_
    refine lpX12_frees_d8_12 C hb12 (fun s12 e12 => ?_)
    subst e12
    refine x_iload C dX12_frees_65 67 rfl 0 rfl ?_
    exact x_iret C (hE _ (Option.some.inj hf).symm) dX12_frees_67
  · have hf := (if_pos hc).symm.trans hf
    refine x_iconst C dX12_frees_4 5 rfl 1 (by decide) ?_
    exact x_iret C (hE _ (Option.some.inj hf).symm) dX12_frees_5
abbrev rmX12_frees_d9 : Room := { frames := 12, cells := 0, slots := 0, locals := 315 }
noncomputable def fLX12_frees_d9_12 (σ : St) (x0 : Nat) (x1 : Int64) (x3 : Int32) (a : Int32 × Int32) : Option ((Int32 × Int32) ⊕ (Int32)) :=
(isO σ x0 11).bind fun _ =>
(fX12_letters σ x0).bind fun w15 =>
if w15 < a.2 then
(some (Sum.inr a.1))
else
(xlet ((6 * x1) + a.2.toInt64) fun v30 =>
(isO σ x0 11).bind fun _ =>
(fX12_endsLeft σ x0 v30).bind fun w37 =>
if w37 = 0 then
((isO σ x0 11).bind fun _ =>
(fX12_frees_d8 σ x0 v30 (x3 - 1)).bind fun w53 =>
xlet (a.1 + w53) fun v57 =>
xlet (a.2 + 1) fun v59 =>
some (Sum.inl (v57, v59)))
else
(xlet (a.1 + 0) fun v57 =>
xlet (a.2 + 1) fun v59 =>
some (Sum.inl (v57, v59))))
set_option maxHeartbeats 4000000 in
set_option maxRecDepth 100000 in
theorem lpX12_frees_d9_12 {X : xX} {σ : St} {x0 : Nat} {x1 : Int64} {x3 : Int32}  {a0 : Int32 × Int32} {b : Int32} (C : Ok X cX12_frees 8 RX12 rmX12_frees_d9 (some .int)) (hb : iterP (fLX12_frees_d9_12 σ x0 x1 x3) a0 = some b) (hy0 : ∀ s, b = s → V X (0, 0) σ 65 [(4, .int (s))] []) : V X (0, 0) σ 12 [(0, .ref (x0)), (1, .long (x1)), (3, .int (x3)), (4, .int (a0.1)), (5, .int (a0.2))] [] := by
  obtain ⟨n, hn⟩ := iterP_some hb
  refine x_loop (P := fun a => V X (0, 0) σ 12 [(0, .ref (x0)), (1, .long (x1)), (3, .int (x3)), (4, .int (a.1)), (5, .int (a.2))] []) ?_ n a0 hn
  intro a c hf hK hxx
  have hx0 : ∀ s, c = Sum.inr s → V X (0, 0) σ 65 [(4, .int (s))] [] := fun s e => hy0 s (hxx _ e).symm
  unfold fLX12_frees_d9_12 at hf
  refine x_iload C dX12_frees_12 14 rfl 4 rfl ?_
  refine x_aload_n C dX12_frees_14 15 rfl 0 rfl rfl ?_
  obtain ⟨o15, ho15, hf⟩ := x_bind hf
  obtain ⟨w15, hw15, hf⟩ := x_bind hf
  refine x_callVi C dX12_frees_15 18 rfl ho15 cl11.1 rfl (cX12_lettersc hw15) kX12_letters kvX12_letters w1860 ⟨rfl, rfl⟩ ⟨Nat.le_of_ble_eq_true rfl, Nat.le_of_ble_eq_true rfl⟩ ⟨Nat.zero_le _, Nat.zero_le _⟩ rfl rfl (Nat.le_of_ble_eq_true rfl) ?_
  refine x_icmp_gt C dX12_frees_18 65 (by decide) 21 rfl (fun hc => ?_) (fun hc => ?_)
  · have hf := (if_pos hc).symm.trans hf
    refine x_lv [3] (lv' := [(4, .int (a.1))]) rfl ?_
    exact hx0 _ (Option.some.inj hf).symm
  · have hf := (if_neg hc).symm.trans hf
    refine x_ldc2 C dX12_frees_21 24 rfl w1704 ?_
    refine x_lload_n C dX12_frees_24 25 rfl 1 rfl rfl ?_
    refine x_lmul C dX12_frees_25 26 rfl ?_
    refine x_iload C dX12_frees_26 28 rfl 4 rfl ?_
    refine x_i2l C dX12_frees_28 29 rfl ?_
    refine x_ladd C dX12_frees_29 30 rfl ?_
    obtain ⟨v30, ev30, hf⟩ := xlet_some hf
    refine x_topl ev30 ?_
    refine x_lstore C dX12_frees_30 32 rfl rfl [(6, .long (v30)), (0, .ref (x0)), (1, .long (x1)), (3, .int (x3)), (4, .int (a.1)), (5, .int (a.2))] rfl ?_
    refine x_iload C dX12_frees_32 34 rfl 4 rfl ?_
    refine x_aload_n C dX12_frees_34 35 rfl 1 rfl rfl ?_
    refine x_lload C dX12_frees_35 37 rfl 0 rfl ?_
    obtain ⟨o37, ho37, hf⟩ := x_bind hf
    obtain ⟨w37, hw37, hf⟩ := x_bind hf
    refine x_callVi C dX12_frees_37 40 rfl ho37 cl11.1 rfl (cX12_endsLeftc hw37) kX12_endsLeft kvX12_endsLeft w1922 ⟨rfl, rfl⟩ ⟨Nat.le_of_ble_eq_true rfl, Nat.le_of_ble_eq_true rfl⟩ ⟨Nat.zero_le _, Nat.zero_le _⟩ rfl rfl (Nat.le_of_ble_eq_true rfl) ?_
    refine x_if_eq C dX12_frees_40 47 (by decide) 43 rfl (fun hc => ?_) (fun hc => ?_)
    · have hf := (if_pos hc).symm.trans hf
      refine x_aload_n C dX12_frees_47 48 rfl 1 rfl rfl ?_
      refine x_lload C dX12_frees_48 50 rfl 0 rfl ?_
      refine x_iload_n C dX12_frees_50 51 rfl 3 rfl rfl ?_
      refine x_iconst C dX12_frees_51 52 rfl 1 (by decide) ?_
      refine x_isub C dX12_frees_52 53 rfl ?_
      obtain ⟨o53, ho53, hf⟩ := x_bind hf
      obtain ⟨w53, hw53, hf⟩ := x_bind hf
      refine x_callVi C dX12_frees_53 56 rfl ho53 cl11.1 rfl (cX12_frees_d8c hw53) kX12_frees kvX12_frees w1918 ⟨rfl, rfl⟩ ⟨Nat.le_of_ble_eq_true rfl, Nat.le_of_ble_eq_true rfl⟩ ⟨Nat.zero_le _, Nat.zero_le _⟩ rfl rfl (Nat.le_of_ble_eq_true rfl) ?_
      refine x_iadd C dX12_frees_56 57 rfl ?_
      obtain ⟨v57, ev57, hf⟩ := xlet_some hf
      refine x_topi ev57 ?_
      refine x_istore C dX12_frees_57 59 rfl rfl [(4, .int (v57)), (6, .long (v30)), (0, .ref (x0)), (1, .long (x1)), (3, .int (x3)), (5, .int (a.2))] rfl ?_
      obtain ⟨v59, ev59, hf⟩ := xlet_some hf
      refine x_iinc C dX12_frees_59 62 rfl 5 rfl v59 ev59 rfl [(5, .int (v59)), (4, .int (v57)), (6, .long (v30)), (0, .ref (x0)), (1, .long (x1)), (3, .int (x3))] rfl ?_
      refine x_goto C dX12_frees_62 12 (by decide) ?_
      refine x_lv [3, 4, 5, 1, 0] (lv' := [(0, .ref (x0)), (1, .long (x1)), (3, .int (x3)), (4, .int (v57)), (5, .int (v59))]) rfl ?_
      exact hK _ (Option.some.inj hf).symm
    · have hf := (if_neg hc).symm.trans hf
      refine x_iconst C dX12_frees_43 44 rfl 0 (by decide) ?_
      refine x_goto C dX12_frees_44 56 (by decide) ?_
      refine x_iadd C dX12_frees_56 57 rfl ?_
      obtain ⟨v57, ev57, hf⟩ := xlet_some hf
      refine x_topi ev57 ?_
      refine x_istore C dX12_frees_57 59 rfl rfl [(4, .int (v57)), (6, .long (v30)), (0, .ref (x0)), (1, .long (x1)), (3, .int (x3)), (5, .int (a.2))] rfl ?_
      obtain ⟨v59, ev59, hf⟩ := xlet_some hf
      refine x_iinc C dX12_frees_59 62 rfl 5 rfl v59 ev59 rfl [(5, .int (v59)), (4, .int (v57)), (6, .long (v30)), (0, .ref (x0)), (1, .long (x1)), (3, .int (x3))] rfl ?_
      refine x_goto C dX12_frees_62 12 (by decide) ?_
      refine x_lv [3, 4, 5, 1, 0] (lv' := [(0, .ref (x0)), (1, .long (x1)), (3, .int (x3)), (4, .int (v57)), (5, .int (v59))]) rfl ?_
      exact hK _ (Option.some.inj hf).symm
noncomputable def fX12_frees_d9 (σ : St) (x0 : Nat) (x1 : Int64) (x3 : Int32) : Option (Int32) :=
if x3 = 0 then
(some 1)
else
((iterP (fLX12_frees_d9_12 σ x0 x1 x3) (0, 1)).bind fun b12 =>
some b12)
set_option maxHeartbeats 4000000 in
set_option maxRecDepth 100000 in
theorem cX12_frees_d9c {l : Launch} {G : xG} {A : Nat → Prop} {σ : St} {x0 : Nat} {x1 : Int64} {x3 : Int32} {c : Int32} (hf : fX12_frees_d9 σ x0 x1 x3 = some c) : Con l yX12_frees (xws yX12_frees cX12_frees 8 (some .int)) rmX12_frees_d9 [.ref (x0), .long (x1), .int (x3)] G A σ (some (.int c)) σ := by
  refine x_start rfl (Nat.le_of_ble_eq_true rfl) (fun X _ _ _ C hE0 => ?_)
  have hE : ∀ r, c = r → xE1 X (some (.int r)) σ := fun r e => e ▸ hE0
  show V X (0, 0) σ 0 [(0, .ref (x0)), (1, .long (x1)), (3, .int (x3))] []
  unfold fX12_frees_d9 at hf
  refine x_iload_n C dX12_frees_0 1 rfl 2 rfl rfl ?_
  refine x_if_ne C dX12_frees_1 6 (by decide) 4 rfl (fun hc => ?_) (fun hc => ?_)
  · have hf := (if_neg hc).symm.trans hf
    refine x_iconst C dX12_frees_6 7 rfl 0 (by decide) ?_
    refine x_istore C dX12_frees_7 9 rfl rfl [(4, .int (0)), (0, .ref (x0)), (1, .long (x1)), (3, .int (x3))] rfl ?_
    refine x_iconst C dX12_frees_9 10 rfl 1 (by decide) ?_
    refine x_istore C dX12_frees_10 12 rfl rfl [(5, .int (1)), (4, .int (0)), (0, .ref (x0)), (1, .long (x1)), (3, .int (x3))] rfl ?_
    obtain ⟨b12, hb12, hf⟩ := x_bind hf
    refine x_lv [2, 3, 4, 1, 0] (lv' := [(0, .ref (x0)), (1, .long (x1)), (3, .int (x3)), (4, .int (0)), (5, .int (1))]) rfl ?_
    refine lpX12_frees_d9_12 C hb12 (fun s12 e12 => ?_)
    subst e12
    refine x_iload C dX12_frees_65 67 rfl 0 rfl ?_
    exact x_iret C (hE _ (Option.some.inj hf).symm) dX12_frees_67
  · have hf := (if_pos hc).symm.trans hf
    refine x_iconst C dX12_frees_4 5 rfl 1 (by decide) ?_
    exact x_iret C (hE _ (Option.some.inj hf).symm) dX12_frees_5
theorem dX12_free_0 : decode cX12_free 0 = .ok (.aload_n 0, 1) := by decide +kernel
theorem dX12_free_1 : decode cX12_free 1 = .ok (.iconst 0, 1) := by decide +kernel
theorem dX12_free_2 : decode cX12_free 2 = .ok (.putfield 1, 3) := by decide +kernel
theorem dX12_free_5 : decode cX12_free 5 = .ok (.aload_n 0, 1) := by decide +kernel
theorem dX12_free_6 : decode cX12_free 6 = .ok (.iload_n 1, 1) := by decide +kernel
theorem dX12_free_7 : decode cX12_free 7 = .ok (.i2l, 1) := by decide +kernel
theorem dX12_free_8 : decode cX12_free 8 = .ok (.lconst 0, 1) := by decide +kernel
theorem dX12_free_9 : decode cX12_free 9 = .ok (.ldc2_w 442, 3) := by decide +kernel
theorem dX12_free_12 : decode cX12_free 12 = .ok (.invokestatic 130, 3) := by decide +kernel
theorem dX12_free_15 : decode cX12_free 15 = .ok (.iconst 1, 1) := by decide +kernel
theorem dX12_free_16 : decode cX12_free 16 = .ok (.invokevirtual 265, 3) := by decide +kernel
theorem dX12_free_19 : decode cX12_free 19 = .ok (.ifCond .eq 12, 3) := by decide +kernel
theorem dX12_free_22 : decode cX12_free 22 = .ok (.aload_n 0, 1) := by decide +kernel
theorem dX12_free_23 : decode cX12_free 23 = .ok (.lconst 0, 1) := by decide +kernel
theorem dX12_free_24 : decode cX12_free 24 = .ok (.iload_n 1, 1) := by decide +kernel
theorem dX12_free_25 : decode cX12_free 25 = .ok (.invokevirtual 439, 3) := by decide +kernel
theorem dX12_free_28 : decode cX12_free 28 = .ok (.goto 4, 3) := by decide +kernel
theorem dX12_free_31 : decode cX12_free 31 = .ok (.iconst 0, 1) := by decide +kernel
theorem dX12_free_32 : decode cX12_free 32 = .ok (.ireturn, 1) := by decide +kernel
abbrev rmX12_free : Room := { frames := 13, cells := 0, slots := 0, locals := 342 }
noncomputable def fX12_free (σ : St) (x0 : Nat) (x1 : Int32) : Option ((Int32 × St)) :=
(wrF σ x0 11 0 (.int (0))).bind fun σ2 =>
(fX12_isIn x1.toInt64 0 8).bind fun w12 =>
(isO σ2 x0 11).bind fun _ =>
(fX12_right σ2 x0 w12 1).bind fun w16 =>
if w16.1 = 0 then
(some (0, w16.2))
else
((isO w16.2 x0 11).bind fun _ =>
(fX12_frees_d9 w16.2 x0 0 x1).bind fun w25 =>
some (w25, w16.2))
set_option maxHeartbeats 4000000 in
set_option maxRecDepth 100000 in
theorem cX12_freec {l : Launch} {G : xG} {A : Nat → Prop} {σ : St} {x0 : Nat} {x1 : Int32} {c : (Int32 × St)} (hf : fX12_free σ x0 x1 = some c) : Con l yX12_free (xws yX12_free cX12_free 2 (some .int)) rmX12_free [.ref (x0), .int (x1)] G A σ (some (.int c.1)) c.2 := by
  refine x_start rfl (Nat.le_of_ble_eq_true rfl) (fun X _ _ _ C hE0 => ?_)
  have hE : ∀ r, c = r → xE1 X (some (.int r.1)) r.2 := fun r e => e ▸ hE0
  show V X (0, 0) σ 0 [(0, .ref (x0)), (1, .int (x1))] []
  unfold fX12_free at hf
  refine x_aload_n C dX12_free_0 1 rfl 0 rfl rfl ?_
  refine x_iconst C dX12_free_1 2 rfl 0 (by decide) ?_
  obtain ⟨σ2, hσ2, hf⟩ := x_bind hf
  refine x_putX C dX12_free_2 5 rfl hσ2 cl11 rfl w1443 rfl rfl rfl ?_
  refine x_aload_n C dX12_free_5 6 rfl 0 rfl rfl ?_
  refine x_iload_n C dX12_free_6 7 rfl 1 rfl rfl ?_
  refine x_i2l C dX12_free_7 8 rfl ?_
  refine x_lconst C dX12_free_8 9 rfl 0 (by decide) ?_
  refine x_ldc2 C dX12_free_9 12 rfl w1917 ?_
  obtain ⟨w12, hw12, hf⟩ := x_bind hf
  refine x_callSi C dX12_free_12 15 rfl (cX12_isInc hw12) kX12_isIn ksX12_isIn w1645 ⟨rfl, rfl⟩ ⟨Nat.le_of_ble_eq_true rfl, Nat.le_of_ble_eq_true rfl⟩ ⟨Nat.zero_le _, Nat.zero_le _⟩ rfl rfl (Nat.le_of_ble_eq_true rfl) ?_
  refine x_iconst C dX12_free_15 16 rfl 1 (by decide) ?_
  obtain ⟨o16, ho16, hf⟩ := x_bind hf
  obtain ⟨w16, hw16, hf⟩ := x_bind hf
  refine x_callVi C dX12_free_16 19 rfl ho16 cl11.1 rfl (cX12_rightc hw16) kX12_right kvX12_right w1648 ⟨rfl, rfl⟩ ⟨Nat.le_of_ble_eq_true rfl, Nat.le_of_ble_eq_true rfl⟩ ⟨Nat.zero_le _, Nat.zero_le _⟩ rfl rfl (Nat.le_of_ble_eq_true rfl) ?_
  refine x_if_eq C dX12_free_19 31 (by decide) 22 rfl (fun hc => ?_) (fun hc => ?_)
  · have hf := (if_pos hc).symm.trans hf
    refine x_iconst C dX12_free_31 32 rfl 0 (by decide) ?_
    exact x_iret C (hE _ (Option.some.inj hf).symm) dX12_free_32
  · have hf := (if_neg hc).symm.trans hf
    refine x_aload_n C dX12_free_22 23 rfl 0 rfl rfl ?_
    refine x_lconst C dX12_free_23 24 rfl 0 (by decide) ?_
    refine x_iload_n C dX12_free_24 25 rfl 1 rfl rfl ?_
    obtain ⟨o25, ho25, hf⟩ := x_bind hf
    obtain ⟨w25, hw25, hf⟩ := x_bind hf
    refine x_callVi C dX12_free_25 28 rfl ho25 cl11.1 rfl (cX12_frees_d9c hw25) kX12_frees kvX12_frees w1918 ⟨rfl, rfl⟩ ⟨Nat.le_of_ble_eq_true rfl, Nat.le_of_ble_eq_true rfl⟩ ⟨Nat.zero_le _, Nat.zero_le _⟩ rfl rfl (Nat.le_of_ble_eq_true rfl) ?_
    refine x_goto C dX12_free_28 32 (by decide) ?_
    exact x_iret C (hE _ (Option.some.inj hf).symm) dX12_free_32
theorem dX12_isWay_0 : decode cX12_isWay 0 = .ok (.iload_n 0, 1) := by decide +kernel
theorem dX12_isWay_1 : decode cX12_isWay 1 = .ok (.i2l, 1) := by decide +kernel
theorem dX12_isWay_2 : decode cX12_isWay 2 = .ok (.lconst 0, 1) := by decide +kernel
theorem dX12_isWay_3 : decode cX12_isWay 3 = .ok (.ldc2_w 434, 3) := by decide +kernel
theorem dX12_isWay_6 : decode cX12_isWay 6 = .ok (.invokestatic 130, 3) := by decide +kernel
theorem dX12_isWay_9 : decode cX12_isWay 9 = .ok (.ireturn, 1) := by decide +kernel
abbrev rmX12_isWay : Room := { frames := 1, cells := 0, slots := 0, locals := 25 }
noncomputable def fX12_isWay (x0 : Int32) : Option (Int32) :=
(fX12_isIn x0.toInt64 0 2).bind fun w6 =>
(zok w6).bind fun z9 =>
some z9
set_option maxHeartbeats 4000000 in
set_option maxRecDepth 100000 in
theorem cX12_isWayc {l : Launch} {G : xG} {A : Nat → Prop} {σ : St} {x0 : Int32} {c : Int32} (hf : fX12_isWay x0 = some c) : Con l yX12_isWay (xws yX12_isWay cX12_isWay 1 (some .boolean)) rmX12_isWay [.int (x0)] G A σ (some (.int c)) σ := by
  refine x_start rfl (Nat.le_of_ble_eq_true rfl) (fun X _ _ _ C hE0 => ?_)
  have hE : ∀ r, c = r → xE1 X (some (.int r)) σ := fun r e => e ▸ hE0
  show V X (0, 0) σ 0 [(0, .int (x0))] []
  unfold fX12_isWay at hf
  refine x_iload_n C dX12_isWay_0 1 rfl 0 rfl rfl ?_
  refine x_i2l C dX12_isWay_1 2 rfl ?_
  refine x_lconst C dX12_isWay_2 3 rfl 0 (by decide) ?_
  refine x_ldc2 C dX12_isWay_3 6 rfl w1900 ?_
  obtain ⟨w6, hw6, hf⟩ := x_bind hf
  refine x_callSi C dX12_isWay_6 9 rfl (cX12_isInc hw6) kX12_isIn ksX12_isIn w1645 ⟨rfl, rfl⟩ ⟨Nat.le_of_ble_eq_true rfl, Nat.le_of_ble_eq_true rfl⟩ ⟨Nat.zero_le _, Nat.zero_le _⟩ rfl rfl (Nat.le_of_ble_eq_true rfl) ?_
  obtain ⟨z9, hz9, hf⟩ := x_bind hf
  refine x_topi (zok_nar hz9).1 ?_
  exact x_zret C (zok_w hz9) (hE _ (Option.some.inj hf).symm) dX12_isWay_9
theorem dX12_makes_0 : decode cX12_makes 0 = .ok (.aload_n 0, 1) := by decide +kernel
theorem dX12_makes_1 : decode cX12_makes 1 = .ok (.getfield 13, 3) := by decide +kernel
theorem dX12_makes_4 : decode cX12_makes 4 = .ok (.iload_n 1, 1) := by decide +kernel
theorem dX12_makes_5 : decode cX12_makes 5 = .ok (.iconst 3, 1) := by decide +kernel
theorem dX12_makes_6 : decode cX12_makes 6 = .ok (.aload_n 0, 1) := by decide +kernel
theorem dX12_makes_7 : decode cX12_makes 7 = .ok (.iload_n 1, 1) := by decide +kernel
theorem dX12_makes_8 : decode cX12_makes 8 = .ok (.invokevirtual 471, 3) := by decide +kernel
theorem dX12_makes_11 : decode cX12_makes 11 = .ok (.iadd, 1) := by decide +kernel
theorem dX12_makes_12 : decode cX12_makes 12 = .ok (.invokestatic 124, 3) := by decide +kernel
theorem dX12_makes_15 : decode cX12_makes 15 = .ok (.ldc2_w 480, 3) := by decide +kernel
theorem dX12_makes_18 : decode cX12_makes 18 = .ok (.iload_n 3, 1) := by decide +kernel
theorem dX12_makes_19 : decode cX12_makes 19 = .ok (.i2l, 1) := by decide +kernel
theorem dX12_makes_20 : decode cX12_makes 20 = .ok (.lmul, 1) := by decide +kernel
theorem dX12_makes_21 : decode cX12_makes 21 = .ok (.iload_n 2, 1) := by decide +kernel
theorem dX12_makes_22 : decode cX12_makes 22 = .ok (.i2l, 1) := by decide +kernel
theorem dX12_makes_23 : decode cX12_makes 23 = .ok (.ladd, 1) := by decide +kernel
theorem dX12_makes_24 : decode cX12_makes 24 = .ok (.lastore, 1) := by decide +kernel
theorem dX12_makes_25 : decode cX12_makes 25 = .ok (.aload_n 0, 1) := by decide +kernel
theorem dX12_makes_26 : decode cX12_makes 26 = .ok (.getfield 13, 3) := by decide +kernel
theorem dX12_makes_29 : decode cX12_makes 29 = .ok (.iload_n 1, 1) := by decide +kernel
theorem dX12_makes_30 : decode cX12_makes 30 = .ok (.iconst 2, 1) := by decide +kernel
theorem dX12_makes_31 : decode cX12_makes 31 = .ok (.invokestatic 124, 3) := by decide +kernel
theorem dX12_makes_34 : decode cX12_makes 34 = .ok (.dup2, 1) := by decide +kernel
theorem dX12_makes_35 : decode cX12_makes 35 = .ok (.laload, 1) := by decide +kernel
theorem dX12_makes_36 : decode cX12_makes 36 = .ok (.lconst 1, 1) := by decide +kernel
theorem dX12_makes_37 : decode cX12_makes 37 = .ok (.ladd, 1) := by decide +kernel
theorem dX12_makes_38 : decode cX12_makes 38 = .ok (.lastore, 1) := by decide +kernel
theorem dX12_makes_39 : decode cX12_makes 39 = .ok (.aload_n 0, 1) := by decide +kernel
theorem dX12_makes_40 : decode cX12_makes 40 = .ok (.getfield 13, 3) := by decide +kernel
theorem dX12_makes_43 : decode cX12_makes 43 = .ok (.iload_n 1, 1) := by decide +kernel
theorem dX12_makes_44 : decode cX12_makes 44 = .ok (.iconst 0, 1) := by decide +kernel
theorem dX12_makes_45 : decode cX12_makes 45 = .ok (.invokestatic 124, 3) := by decide +kernel
theorem dX12_makes_48 : decode cX12_makes 48 = .ok (.lload 4, 2) := by decide +kernel
theorem dX12_makes_50 : decode cX12_makes 50 = .ok (.lastore, 1) := by decide +kernel
theorem dX12_makes_51 : decode cX12_makes 51 = .ok (.return_, 1) := by decide +kernel
abbrev rmX12_makes : Room := { frames := 2, cells := 0, slots := 0, locals := 42 }
noncomputable def fX12_makes (σ : St) (x0 : Nat) (x1 : Int32) (x2 : Int32) (x3 : Int32) (x4 : Int64) : Option (St) :=
(gR σ x0 11 1).bind fun v1 =>
(isO σ x0 11).bind fun _ =>
(fX12_stepsOf σ x0 x1).bind fun w8 =>
(fX12_place x1 (3 + w8)).bind fun w12 =>
(sL σ v1 w12 ((16 * x3.toInt64) + x2.toInt64)).bind fun σ24 =>
(gR σ24 x0 11 1).bind fun v26 =>
(fX12_place x1 2).bind fun w31 =>
(aL σ24 v26 w31).bind fun v35 =>
(sL σ24 v26 w31 (v35 + 1)).bind fun σ38 =>
(gR σ38 x0 11 1).bind fun v40 =>
(fX12_place x1 0).bind fun w45 =>
(sL σ38 v40 w45 x4).bind fun σ50 =>
some σ50
set_option maxHeartbeats 4000000 in
set_option maxRecDepth 100000 in
theorem cX12_makesc {l : Launch} {G : xG} {A : Nat → Prop} {σ : St} {x0 : Nat} {x1 : Int32} {x2 : Int32} {x3 : Int32} {x4 : Int64} {c : St} (hf : fX12_makes σ x0 x1 x2 x3 x4 = some c) : Con l yX12_makes (xws yX12_makes cX12_makes 6 none) rmX12_makes [.ref (x0), .int (x1), .int (x2), .int (x3), .long (x4)] G A σ none c := by
  refine x_start rfl (Nat.le_of_ble_eq_true rfl) (fun X _ _ _ C hE0 => ?_)
  have hE : ∀ r, c = r → xE1 X none r := fun r e => e ▸ hE0
  show V X (0, 0) σ 0 [(0, .ref (x0)), (1, .int (x1)), (2, .int (x2)), (3, .int (x3)), (4, .long (x4))] []
  unfold fX12_makes at hf
  refine x_aload_n C dX12_makes_0 1 rfl 0 rfl rfl ?_
  obtain ⟨v1, hv1, hf⟩ := x_bind hf
  refine x_getR C dX12_makes_1 4 rfl hv1 cl11 rfl w1444 ?_
  refine x_iload_n C dX12_makes_4 5 rfl 1 rfl rfl ?_
  refine x_iconst C dX12_makes_5 6 rfl 3 (by decide) ?_
  refine x_aload_n C dX12_makes_6 7 rfl 0 rfl rfl ?_
  refine x_iload_n C dX12_makes_7 8 rfl 1 rfl rfl ?_
  obtain ⟨o8, ho8, hf⟩ := x_bind hf
  obtain ⟨w8, hw8, hf⟩ := x_bind hf
  refine x_callVi C dX12_makes_8 11 rfl ho8 cl11.1 rfl (cX12_stepsOfc hw8) kX12_stepsOf kvX12_stepsOf w1980 ⟨rfl, rfl⟩ ⟨Nat.le_of_ble_eq_true rfl, Nat.le_of_ble_eq_true rfl⟩ ⟨Nat.zero_le _, Nat.zero_le _⟩ rfl rfl (Nat.le_of_ble_eq_true rfl) ?_
  refine x_iadd C dX12_makes_11 12 rfl ?_
  obtain ⟨w12, hw12, hf⟩ := x_bind hf
  refine x_callSi C dX12_makes_12 15 rfl (cX12_placec hw12) kX12_place ksX12_place w1849 ⟨rfl, rfl⟩ ⟨Nat.le_of_ble_eq_true rfl, Nat.le_of_ble_eq_true rfl⟩ ⟨Nat.zero_le _, Nat.zero_le _⟩ rfl rfl (Nat.le_of_ble_eq_true rfl) ?_
  refine x_ldc2 C dX12_makes_15 18 rfl w2004 ?_
  refine x_iload_n C dX12_makes_18 19 rfl 3 rfl rfl ?_
  refine x_i2l C dX12_makes_19 20 rfl ?_
  refine x_lmul C dX12_makes_20 21 rfl ?_
  refine x_iload_n C dX12_makes_21 22 rfl 2 rfl rfl ?_
  refine x_i2l C dX12_makes_22 23 rfl ?_
  refine x_ladd C dX12_makes_23 24 rfl ?_
  obtain ⟨σ24, hσ24, hf⟩ := x_bind hf
  refine x_lastore C dX12_makes_24 25 rfl hσ24 ?_
  refine x_aload_n C dX12_makes_25 26 rfl 0 rfl rfl ?_
  obtain ⟨v26, hv26, hf⟩ := x_bind hf
  refine x_getR C dX12_makes_26 29 rfl hv26 cl11 rfl w1444 ?_
  refine x_iload_n C dX12_makes_29 30 rfl 1 rfl rfl ?_
  refine x_iconst C dX12_makes_30 31 rfl 2 (by decide) ?_
  obtain ⟨w31, hw31, hf⟩ := x_bind hf
  refine x_callSi C dX12_makes_31 34 rfl (cX12_placec hw31) kX12_place ksX12_place w1849 ⟨rfl, rfl⟩ ⟨Nat.le_of_ble_eq_true rfl, Nat.le_of_ble_eq_true rfl⟩ ⟨Nat.zero_le _, Nat.zero_le _⟩ rfl rfl (Nat.le_of_ble_eq_true rfl) ?_
  refine x_dup2 C dX12_makes_34 35 rfl rfl rfl ?_
  obtain ⟨v35, hv35, hf⟩ := x_bind hf
  refine x_laload C dX12_makes_35 36 rfl hv35 ?_
  refine x_lconst C dX12_makes_36 37 rfl 1 (by decide) ?_
  refine x_ladd C dX12_makes_37 38 rfl ?_
  obtain ⟨σ38, hσ38, hf⟩ := x_bind hf
  refine x_lastore C dX12_makes_38 39 rfl hσ38 ?_
  refine x_aload_n C dX12_makes_39 40 rfl 0 rfl rfl ?_
  obtain ⟨v40, hv40, hf⟩ := x_bind hf
  refine x_getR C dX12_makes_40 43 rfl hv40 cl11 rfl w1444 ?_
  refine x_iload_n C dX12_makes_43 44 rfl 1 rfl rfl ?_
  refine x_iconst C dX12_makes_44 45 rfl 0 (by decide) ?_
  obtain ⟨w45, hw45, hf⟩ := x_bind hf
  refine x_callSi C dX12_makes_45 48 rfl (cX12_placec hw45) kX12_place ksX12_place w1849 ⟨rfl, rfl⟩ ⟨Nat.le_of_ble_eq_true rfl, Nat.le_of_ble_eq_true rfl⟩ ⟨Nat.zero_le _, Nat.zero_le _⟩ rfl rfl (Nat.le_of_ble_eq_true rfl) ?_
  refine x_lload C dX12_makes_48 50 rfl 4 rfl ?_
  obtain ⟨σ50, hσ50, hf⟩ := x_bind hf
  refine x_lastore C dX12_makes_50 51 rfl hσ50 ?_
  exact x_vret C (hE _ (Option.some.inj hf).symm) dX12_makes_51
