/-! methods: X12_isKin X12_isIn X12_isRule X12_right X12_areKin X12_areLetters X12_isPlace X12_draws X12_place X12_begins X12_isThere X12_replaces X12_laysCanon -/
theorem dX12_isKin_0 : decode cX12_isKin 0 = .ok (.iconst 0, 1) := by decide +kernel
theorem dX12_isKin_1 : decode cX12_isKin 1 = .ok (.istore 4, 2) := by decide +kernel
theorem dX12_isKin_3 : decode cX12_isKin 3 = .ok (.iload 4, 2) := by decide +kernel
theorem dX12_isKin_5 : decode cX12_isKin 5 = .ok (.iconst 5, 1) := by decide +kernel
theorem dX12_isKin_6 : decode cX12_isKin 6 = .ok (.if_icmp .ge 17, 3) := by decide +kernel
theorem dX12_isKin_9 : decode cX12_isKin 9 = .ok (.aload_n 0, 1) := by decide +kernel
theorem dX12_isKin_10 : decode cX12_isKin 10 = .ok (.getfield 55, 3) := by decide +kernel
theorem dX12_isKin_13 : decode cX12_isKin 13 = .ok (.iload 4, 2) := by decide +kernel
theorem dX12_isKin_15 : decode cX12_isKin 15 = .ok (.iconst (-1), 1) := by decide +kernel
theorem dX12_isKin_16 : decode cX12_isKin 16 = .ok (.iastore, 1) := by decide +kernel
theorem dX12_isKin_17 : decode cX12_isKin 17 = .ok (.iinc 4 1, 3) := by decide +kernel
theorem dX12_isKin_20 : decode cX12_isKin 20 = .ok (.goto (-17), 3) := by decide +kernel
theorem dX12_isKin_23 : decode cX12_isKin 23 = .ok (.aload_n 0, 1) := by decide +kernel
theorem dX12_isKin_24 : decode cX12_isKin 24 = .ok (.aload_n 0, 1) := by decide +kernel
theorem dX12_isKin_25 : decode cX12_isKin 25 = .ok (.iload_n 1, 1) := by decide +kernel
theorem dX12_isKin_26 : decode cX12_isKin 26 = .ok (.invokevirtual 285, 3) := by decide +kernel
theorem dX12_isKin_29 : decode cX12_isKin 29 = .ok (.aload_n 0, 1) := by decide +kernel
theorem dX12_isKin_30 : decode cX12_isKin 30 = .ok (.iload_n 2, 1) := by decide +kernel
theorem dX12_isKin_31 : decode cX12_isKin 31 = .ok (.invokevirtual 285, 3) := by decide +kernel
theorem dX12_isKin_34 : decode cX12_isKin 34 = .ok (.iload_n 3, 1) := by decide +kernel
theorem dX12_isKin_35 : decode cX12_isKin 35 = .ok (.invokevirtual 444, 3) := by decide +kernel
theorem dX12_isKin_38 : decode cX12_isKin 38 = .ok (.ifCond .eq 25, 3) := by decide +kernel
theorem dX12_isKin_41 : decode cX12_isKin 41 = .ok (.aload_n 0, 1) := by decide +kernel
theorem dX12_isKin_42 : decode cX12_isKin 42 = .ok (.aload_n 0, 1) := by decide +kernel
theorem dX12_isKin_43 : decode cX12_isKin 43 = .ok (.iload_n 1, 1) := by decide +kernel
theorem dX12_isKin_44 : decode cX12_isKin 44 = .ok (.invokevirtual 288, 3) := by decide +kernel
theorem dX12_isKin_47 : decode cX12_isKin 47 = .ok (.aload_n 0, 1) := by decide +kernel
theorem dX12_isKin_48 : decode cX12_isKin 48 = .ok (.iload_n 2, 1) := by decide +kernel
theorem dX12_isKin_49 : decode cX12_isKin 49 = .ok (.invokevirtual 288, 3) := by decide +kernel
theorem dX12_isKin_52 : decode cX12_isKin 52 = .ok (.iload_n 3, 1) := by decide +kernel
theorem dX12_isKin_53 : decode cX12_isKin 53 = .ok (.invokevirtual 444, 3) := by decide +kernel
theorem dX12_isKin_56 : decode cX12_isKin 56 = .ok (.ifCond .eq 7, 3) := by decide +kernel
theorem dX12_isKin_59 : decode cX12_isKin 59 = .ok (.iconst 1, 1) := by decide +kernel
theorem dX12_isKin_60 : decode cX12_isKin 60 = .ok (.goto 4, 3) := by decide +kernel
theorem dX12_isKin_63 : decode cX12_isKin 63 = .ok (.iconst 0, 1) := by decide +kernel
theorem dX12_isKin_64 : decode cX12_isKin 64 = .ok (.ireturn, 1) := by decide +kernel
abbrev rmX12_isKin : Room := { frames := 4, cells := 0, slots := 0, locals := 100 }
noncomputable def fLX12_isKin_3 (x0 : Nat) (x1 : Int32) (x2 : Int32) (x3 : Int32) (a : Int32 × St) : Option ((Int32 × St) ⊕ (St)) :=
if ((5 : Int32)) ≤ a.1 then
(some (Sum.inr a.2))
else
((gR a.2 x0 11 36).bind fun v10 =>
(sI a.2 v10 a.1 (-1)).bind fun σ16 =>
xlet (a.1 + 1) fun v17 =>
some (Sum.inl (v17, σ16)))
set_option maxHeartbeats 4000000 in
set_option maxRecDepth 100000 in
theorem lpX12_isKin_3 {X : xX} {x0 : Nat} {x1 : Int32} {x2 : Int32} {x3 : Int32}  {a0 : Int32 × St} {b : St} (C : Ok X cX12_isKin 5 RX12 rmX12_isKin (some .boolean)) (hb : iterP (fLX12_isKin_3 x0 x1 x2 x3) a0 = some b) (hy0 : ∀ s, b = s → V X (0, 0) s 23 [(0, .ref (x0)), (1, .int (x1)), (2, .int (x2)), (3, .int (x3))] []) : V X (0, 0) a0.2 3 [(0, .ref (x0)), (1, .int (x1)), (2, .int (x2)), (3, .int (x3)), (4, .int (a0.1))] [] := by
  obtain ⟨n, hn⟩ := iterP_some hb
  refine x_loop (P := fun a => V X (0, 0) a.2 3 [(0, .ref (x0)), (1, .int (x1)), (2, .int (x2)), (3, .int (x3)), (4, .int (a.1))] []) ?_ n a0 hn
  intro a c hf hK hxx
  have hx0 : ∀ s, c = Sum.inr s → V X (0, 0) s 23 [(0, .ref (x0)), (1, .int (x1)), (2, .int (x2)), (3, .int (x3))] [] := fun s e => hy0 s (hxx _ e).symm
  unfold fLX12_isKin_3 at hf
  refine x_iload C dX12_isKin_3 5 rfl 4 rfl ?_
  refine x_iconst C dX12_isKin_5 6 rfl 5 (by decide) ?_
  refine x_icmp_ge C dX12_isKin_6 23 (by decide) 9 rfl (fun hc => ?_) (fun hc => ?_)
  · have hf := (if_pos hc).symm.trans hf
    refine x_lv [0, 1, 2, 3] (lv' := [(0, .ref (x0)), (1, .int (x1)), (2, .int (x2)), (3, .int (x3))]) rfl ?_
    exact hx0 _ (Option.some.inj hf).symm
  · have hf := (if_neg hc).symm.trans hf
    refine x_aload_n C dX12_isKin_9 10 rfl 0 rfl rfl ?_
    obtain ⟨v10, hv10, hf⟩ := x_bind hf
    refine x_getR C dX12_isKin_10 13 rfl hv10 cl11 rfl w1479 ?_
    refine x_iload C dX12_isKin_13 15 rfl 4 rfl ?_
    refine x_iconst C dX12_isKin_15 16 rfl (-1) (by decide) ?_
    obtain ⟨σ16, hσ16, hf⟩ := x_bind hf
    refine x_iastore C dX12_isKin_16 17 rfl hσ16 ?_
    obtain ⟨v17, ev17, hf⟩ := xlet_some hf
    refine x_iinc C dX12_isKin_17 20 rfl 4 rfl v17 ev17 rfl [(4, .int (v17)), (0, .ref (x0)), (1, .int (x1)), (2, .int (x2)), (3, .int (x3))] rfl ?_
    refine x_goto C dX12_isKin_20 3 (by decide) ?_
    refine x_lv [1, 2, 3, 4, 0] (lv' := [(0, .ref (x0)), (1, .int (x1)), (2, .int (x2)), (3, .int (x3)), (4, .int (v17))]) rfl ?_
    exact hK _ (Option.some.inj hf).symm
noncomputable def fX12_isKin (σ : St) (x0 : Nat) (x1 : Int32) (x2 : Int32) (x3 : Int32) : Option ((Int32 × St)) :=
(iterP (fLX12_isKin_3 x0 x1 x2 x3) (0, σ)).bind fun b3 =>
(isO b3 x0 11).bind fun _ =>
(fX12_leftOf b3 x0 x1).bind fun w26 =>
(isO b3 x0 11).bind fun _ =>
(fX12_leftOf b3 x0 x2).bind fun w31 =>
(isO b3 x0 11).bind fun _ =>
(fX12_isNamed b3 x0 w26 w31 x3).bind fun w35 =>
if w35.1 = 0 then
(some (0, w35.2))
else
((isO w35.2 x0 11).bind fun _ =>
(fX12_rightOf w35.2 x0 x1).bind fun w44 =>
(isO w35.2 x0 11).bind fun _ =>
(fX12_rightOf w35.2 x0 x2).bind fun w49 =>
(isO w35.2 x0 11).bind fun _ =>
(fX12_isNamed w35.2 x0 w44 w49 x3).bind fun w53 =>
if w53.1 = 0 then
(some (0, w53.2))
else
(some (1, w53.2)))
set_option maxHeartbeats 4000000 in
set_option maxRecDepth 100000 in
theorem cX12_isKinc {l : Launch} {G : xG} {A : Nat → Prop} {σ : St} {x0 : Nat} {x1 : Int32} {x2 : Int32} {x3 : Int32} {c : (Int32 × St)} (hf : fX12_isKin σ x0 x1 x2 x3 = some c) : Con l yX12_isKin (xws yX12_isKin cX12_isKin 5 (some .boolean)) rmX12_isKin [.ref (x0), .int (x1), .int (x2), .int (x3)] G A σ (some (.int c.1)) c.2 := by
  refine x_start rfl (Nat.le_of_ble_eq_true rfl) (fun X _ _ _ C hE0 => ?_)
  have hE : ∀ r, c = r → xE1 X (some (.int r.1)) r.2 := fun r e => e ▸ hE0
  show V X (0, 0) σ 0 [(0, .ref (x0)), (1, .int (x1)), (2, .int (x2)), (3, .int (x3))] []
  unfold fX12_isKin at hf
  refine x_iconst C dX12_isKin_0 1 rfl 0 (by decide) ?_
  refine x_istore C dX12_isKin_1 3 rfl rfl [(4, .int (0)), (0, .ref (x0)), (1, .int (x1)), (2, .int (x2)), (3, .int (x3))] rfl ?_
  obtain ⟨b3, hb3, hf⟩ := x_bind hf
  refine x_lv [1, 2, 3, 4, 0] (lv' := [(0, .ref (x0)), (1, .int (x1)), (2, .int (x2)), (3, .int (x3)), (4, .int (0))]) rfl ?_
  refine lpX12_isKin_3 C hb3 (fun s3 e3 => ?_)
  subst e3
  refine x_aload_n C dX12_isKin_23 24 rfl 0 rfl rfl ?_
  refine x_aload_n C dX12_isKin_24 25 rfl 0 rfl rfl ?_
  refine x_iload_n C dX12_isKin_25 26 rfl 1 rfl rfl ?_
  obtain ⟨o26, ho26, hf⟩ := x_bind hf
  obtain ⟨w26, hw26, hf⟩ := x_bind hf
  refine x_callVl C dX12_isKin_26 29 rfl ho26 cl11.1 rfl (cX12_leftOfc hw26) kX12_leftOf kvX12_leftOf w1752 ⟨rfl, rfl⟩ ⟨Nat.le_of_ble_eq_true rfl, Nat.le_of_ble_eq_true rfl⟩ ⟨Nat.zero_le _, Nat.zero_le _⟩ rfl rfl (Nat.le_of_ble_eq_true rfl) ?_
  refine x_aload_n C dX12_isKin_29 30 rfl 0 rfl rfl ?_
  refine x_iload_n C dX12_isKin_30 31 rfl 2 rfl rfl ?_
  obtain ⟨o31, ho31, hf⟩ := x_bind hf
  obtain ⟨w31, hw31, hf⟩ := x_bind hf
  refine x_callVl C dX12_isKin_31 34 rfl ho31 cl11.1 rfl (cX12_leftOfc hw31) kX12_leftOf kvX12_leftOf w1752 ⟨rfl, rfl⟩ ⟨Nat.le_of_ble_eq_true rfl, Nat.le_of_ble_eq_true rfl⟩ ⟨Nat.zero_le _, Nat.zero_le _⟩ rfl rfl (Nat.le_of_ble_eq_true rfl) ?_
  refine x_iload_n C dX12_isKin_34 35 rfl 3 rfl rfl ?_
  obtain ⟨o35, ho35, hf⟩ := x_bind hf
  obtain ⟨w35, hw35, hf⟩ := x_bind hf
  refine x_callVi C dX12_isKin_35 38 rfl ho35 cl11.1 rfl (cX12_isNamedc hw35) kX12_isNamed kvX12_isNamed w1934 ⟨rfl, rfl⟩ ⟨Nat.le_of_ble_eq_true rfl, Nat.le_of_ble_eq_true rfl⟩ ⟨Nat.zero_le _, Nat.zero_le _⟩ rfl rfl (Nat.le_of_ble_eq_true rfl) ?_
  refine x_if_eq C dX12_isKin_38 63 (by decide) 41 rfl (fun hc => ?_) (fun hc => ?_)
  · have hf := (if_pos hc).symm.trans hf
    refine x_iconst C dX12_isKin_63 64 rfl 0 (by decide) ?_
    exact x_zret C rfl (hE _ (Option.some.inj hf).symm) dX12_isKin_64
  · have hf := (if_neg hc).symm.trans hf
    refine x_aload_n C dX12_isKin_41 42 rfl 0 rfl rfl ?_
    refine x_aload_n C dX12_isKin_42 43 rfl 0 rfl rfl ?_
    refine x_iload_n C dX12_isKin_43 44 rfl 1 rfl rfl ?_
    obtain ⟨o44, ho44, hf⟩ := x_bind hf
    obtain ⟨w44, hw44, hf⟩ := x_bind hf
    refine x_callVl C dX12_isKin_44 47 rfl ho44 cl11.1 rfl (cX12_rightOfc hw44) kX12_rightOf kvX12_rightOf w1756 ⟨rfl, rfl⟩ ⟨Nat.le_of_ble_eq_true rfl, Nat.le_of_ble_eq_true rfl⟩ ⟨Nat.zero_le _, Nat.zero_le _⟩ rfl rfl (Nat.le_of_ble_eq_true rfl) ?_
    refine x_aload_n C dX12_isKin_47 48 rfl 0 rfl rfl ?_
    refine x_iload_n C dX12_isKin_48 49 rfl 2 rfl rfl ?_
    obtain ⟨o49, ho49, hf⟩ := x_bind hf
    obtain ⟨w49, hw49, hf⟩ := x_bind hf
    refine x_callVl C dX12_isKin_49 52 rfl ho49 cl11.1 rfl (cX12_rightOfc hw49) kX12_rightOf kvX12_rightOf w1756 ⟨rfl, rfl⟩ ⟨Nat.le_of_ble_eq_true rfl, Nat.le_of_ble_eq_true rfl⟩ ⟨Nat.zero_le _, Nat.zero_le _⟩ rfl rfl (Nat.le_of_ble_eq_true rfl) ?_
    refine x_iload_n C dX12_isKin_52 53 rfl 3 rfl rfl ?_
    obtain ⟨o53, ho53, hf⟩ := x_bind hf
    obtain ⟨w53, hw53, hf⟩ := x_bind hf
    refine x_callVi C dX12_isKin_53 56 rfl ho53 cl11.1 rfl (cX12_isNamedc hw53) kX12_isNamed kvX12_isNamed w1934 ⟨rfl, rfl⟩ ⟨Nat.le_of_ble_eq_true rfl, Nat.le_of_ble_eq_true rfl⟩ ⟨Nat.zero_le _, Nat.zero_le _⟩ rfl rfl (Nat.le_of_ble_eq_true rfl) ?_
    refine x_if_eq C dX12_isKin_56 63 (by decide) 59 rfl (fun hc => ?_) (fun hc => ?_)
    · have hf := (if_pos hc).symm.trans hf
      refine x_iconst C dX12_isKin_63 64 rfl 0 (by decide) ?_
      exact x_zret C rfl (hE _ (Option.some.inj hf).symm) dX12_isKin_64
    · have hf := (if_neg hc).symm.trans hf
      refine x_iconst C dX12_isKin_59 60 rfl 1 (by decide) ?_
      refine x_goto C dX12_isKin_60 64 (by decide) ?_
      exact x_zret C rfl (hE _ (Option.some.inj hf).symm) dX12_isKin_64
theorem dX12_isIn_0 : decode cX12_isIn 0 = .ok (.lload_n 0, 1) := by decide +kernel
theorem dX12_isIn_1 : decode cX12_isIn 1 = .ok (.lload_n 2, 1) := by decide +kernel
theorem dX12_isIn_2 : decode cX12_isIn 2 = .ok (.lcmp, 1) := by decide +kernel
theorem dX12_isIn_3 : decode cX12_isIn 3 = .ok (.ifCond .lt 14, 3) := by decide +kernel
theorem dX12_isIn_6 : decode cX12_isIn 6 = .ok (.lload_n 0, 1) := by decide +kernel
theorem dX12_isIn_7 : decode cX12_isIn 7 = .ok (.lload 4, 2) := by decide +kernel
theorem dX12_isIn_9 : decode cX12_isIn 9 = .ok (.lcmp, 1) := by decide +kernel
theorem dX12_isIn_10 : decode cX12_isIn 10 = .ok (.ifCond .gt 7, 3) := by decide +kernel
theorem dX12_isIn_13 : decode cX12_isIn 13 = .ok (.iconst 1, 1) := by decide +kernel
theorem dX12_isIn_14 : decode cX12_isIn 14 = .ok (.goto 4, 3) := by decide +kernel
theorem dX12_isIn_17 : decode cX12_isIn 17 = .ok (.iconst 0, 1) := by decide +kernel
theorem dX12_isIn_18 : decode cX12_isIn 18 = .ok (.ireturn, 1) := by decide +kernel
abbrev rmX12_isIn : Room := { frames := 0, cells := 0, slots := 0, locals := 0 }
noncomputable def fX12_isIn (x0 : Int64) (x2 : Int64) (x4 : Int64) : Option (Int32) :=
if (lg_cmp x0 x2) < 0 then
(some 0)
else
(if 0 < (lg_cmp x0 x4) then
(some 0)
else
(some 1))
set_option maxHeartbeats 4000000 in
set_option maxRecDepth 100000 in
theorem cX12_isInc {l : Launch} {G : xG} {A : Nat → Prop} {σ : St} {x0 : Int64} {x2 : Int64} {x4 : Int64} {c : Int32} (hf : fX12_isIn x0 x2 x4 = some c) : Con l yX12_isIn (xws yX12_isIn cX12_isIn 6 (some .boolean)) rmX12_isIn [.long (x0), .long (x2), .long (x4)] G A σ (some (.int c)) σ := by
  refine x_start rfl (Nat.le_of_ble_eq_true rfl) (fun X _ _ _ C hE0 => ?_)
  have hE : ∀ r, c = r → xE1 X (some (.int r)) σ := fun r e => e ▸ hE0
  show V X (0, 0) σ 0 [(0, .long (x0)), (2, .long (x2)), (4, .long (x4))] []
  unfold fX12_isIn at hf
  refine x_lload_n C dX12_isIn_0 1 rfl 0 rfl rfl ?_
  refine x_lload_n C dX12_isIn_1 2 rfl 1 rfl rfl ?_
  refine x_lcmp C dX12_isIn_2 3 rfl ?_
  refine x_if_lt C dX12_isIn_3 17 (by decide) 6 rfl (fun hc => ?_) (fun hc => ?_)
  · have hf := (if_pos hc).symm.trans hf
    refine x_iconst C dX12_isIn_17 18 rfl 0 (by decide) ?_
    exact x_zret C rfl (hE _ (Option.some.inj hf).symm) dX12_isIn_18
  · have hf := (if_neg hc).symm.trans hf
    refine x_lload_n C dX12_isIn_6 7 rfl 0 rfl rfl ?_
    refine x_lload C dX12_isIn_7 9 rfl 2 rfl ?_
    refine x_lcmp C dX12_isIn_9 10 rfl ?_
    refine x_if_gt C dX12_isIn_10 17 (by decide) 13 rfl (fun hc => ?_) (fun hc => ?_)
    · have hf := (if_pos hc).symm.trans hf
      refine x_iconst C dX12_isIn_17 18 rfl 0 (by decide) ?_
      exact x_zret C rfl (hE _ (Option.some.inj hf).symm) dX12_isIn_18
    · have hf := (if_neg hc).symm.trans hf
      refine x_iconst C dX12_isIn_13 14 rfl 1 (by decide) ?_
      refine x_goto C dX12_isIn_14 18 (by decide) ?_
      exact x_zret C rfl (hE _ (Option.some.inj hf).symm) dX12_isIn_18
theorem dX12_isRule_0 : decode cX12_isRule 0 = .ok (.iload_n 1, 1) := by decide +kernel
theorem dX12_isRule_1 : decode cX12_isRule 1 = .ok (.i2l, 1) := by decide +kernel
theorem dX12_isRule_2 : decode cX12_isRule 2 = .ok (.lconst 0, 1) := by decide +kernel
theorem dX12_isRule_3 : decode cX12_isRule 3 = .ok (.aload_n 0, 1) := by decide +kernel
theorem dX12_isRule_4 : decode cX12_isRule 4 = .ok (.invokevirtual 273, 3) := by decide +kernel
theorem dX12_isRule_7 : decode cX12_isRule 7 = .ok (.iconst 1, 1) := by decide +kernel
theorem dX12_isRule_8 : decode cX12_isRule 8 = .ok (.isub, 1) := by decide +kernel
theorem dX12_isRule_9 : decode cX12_isRule 9 = .ok (.i2l, 1) := by decide +kernel
theorem dX12_isRule_10 : decode cX12_isRule 10 = .ok (.invokestatic 130, 3) := by decide +kernel
theorem dX12_isRule_13 : decode cX12_isRule 13 = .ok (.ireturn, 1) := by decide +kernel
abbrev rmX12_isRule : Room := { frames := 1, cells := 0, slots := 0, locals := 25 }
noncomputable def fX12_isRule (σ : St) (x0 : Nat) (x1 : Int32) : Option (Int32) :=
(isO σ x0 11).bind fun _ =>
(fX12_rules σ x0).bind fun w4 =>
(fX12_isIn x1.toInt64 0 ((w4 - 1).toInt64)).bind fun w10 =>
(zok w10).bind fun z13 =>
some z13
set_option maxHeartbeats 4000000 in
set_option maxRecDepth 100000 in
theorem cX12_isRulec {l : Launch} {G : xG} {A : Nat → Prop} {σ : St} {x0 : Nat} {x1 : Int32} {c : Int32} (hf : fX12_isRule σ x0 x1 = some c) : Con l yX12_isRule (xws yX12_isRule cX12_isRule 2 (some .boolean)) rmX12_isRule [.ref (x0), .int (x1)] G A σ (some (.int c)) σ := by
  refine x_start rfl (Nat.le_of_ble_eq_true rfl) (fun X _ _ _ C hE0 => ?_)
  have hE : ∀ r, c = r → xE1 X (some (.int r)) σ := fun r e => e ▸ hE0
  show V X (0, 0) σ 0 [(0, .ref (x0)), (1, .int (x1))] []
  unfold fX12_isRule at hf
  refine x_iload_n C dX12_isRule_0 1 rfl 1 rfl rfl ?_
  refine x_i2l C dX12_isRule_1 2 rfl ?_
  refine x_lconst C dX12_isRule_2 3 rfl 0 (by decide) ?_
  refine x_aload_n C dX12_isRule_3 4 rfl 0 rfl rfl ?_
  obtain ⟨o4, ho4, hf⟩ := x_bind hf
  obtain ⟨w4, hw4, hf⟩ := x_bind hf
  refine x_callVi C dX12_isRule_4 7 rfl ho4 cl11.1 rfl (cX12_rulesc hw4) kX12_rules kvX12_rules w1735 ⟨rfl, rfl⟩ ⟨Nat.le_of_ble_eq_true rfl, Nat.le_of_ble_eq_true rfl⟩ ⟨Nat.zero_le _, Nat.zero_le _⟩ rfl rfl (Nat.le_of_ble_eq_true rfl) ?_
  refine x_iconst C dX12_isRule_7 8 rfl 1 (by decide) ?_
  refine x_isub C dX12_isRule_8 9 rfl ?_
  refine x_i2l C dX12_isRule_9 10 rfl ?_
  obtain ⟨w10, hw10, hf⟩ := x_bind hf
  refine x_callSi C dX12_isRule_10 13 rfl (cX12_isInc hw10) kX12_isIn ksX12_isIn w1645 ⟨rfl, rfl⟩ ⟨Nat.le_of_ble_eq_true rfl, Nat.le_of_ble_eq_true rfl⟩ ⟨Nat.zero_le _, Nat.zero_le _⟩ rfl rfl (Nat.le_of_ble_eq_true rfl) ?_
  obtain ⟨z13, hz13, hf⟩ := x_bind hf
  refine x_topi (zok_nar hz13).1 ?_
  exact x_zret C (zok_w hz13) (hE _ (Option.some.inj hf).symm) dX12_isRule_13
theorem dX12_right_0 : decode cX12_right 0 = .ok (.aload_n 0, 1) := by decide +kernel
theorem dX12_right_1 : decode cX12_right 1 = .ok (.getfield 1, 3) := by decide +kernel
theorem dX12_right_4 : decode cX12_right 4 = .ok (.ifCond .ne 12, 3) := by decide +kernel
theorem dX12_right_7 : decode cX12_right 7 = .ok (.iload_n 1, 1) := by decide +kernel
theorem dX12_right_8 : decode cX12_right 8 = .ok (.ifCond .ne 8, 3) := by decide +kernel
theorem dX12_right_11 : decode cX12_right 11 = .ok (.aload_n 0, 1) := by decide +kernel
theorem dX12_right_12 : decode cX12_right 12 = .ok (.iload_n 2, 1) := by decide +kernel
theorem dX12_right_13 : decode cX12_right 13 = .ok (.putfield 1, 3) := by decide +kernel
theorem dX12_right_16 : decode cX12_right 16 = .ok (.aload_n 0, 1) := by decide +kernel
theorem dX12_right_17 : decode cX12_right 17 = .ok (.getfield 1, 3) := by decide +kernel
theorem dX12_right_20 : decode cX12_right 20 = .ok (.ifCond .ne 7, 3) := by decide +kernel
theorem dX12_right_23 : decode cX12_right 23 = .ok (.iconst 1, 1) := by decide +kernel
theorem dX12_right_24 : decode cX12_right 24 = .ok (.goto 4, 3) := by decide +kernel
theorem dX12_right_27 : decode cX12_right 27 = .ok (.iconst 0, 1) := by decide +kernel
theorem dX12_right_28 : decode cX12_right 28 = .ok (.ireturn, 1) := by decide +kernel
abbrev rmX12_right : Room := { frames := 0, cells := 0, slots := 0, locals := 0 }
noncomputable def fX12_right (σ : St) (x0 : Nat) (x1 : Int32) (x2 : Int32) : Option ((Int32 × St)) :=
(gI σ x0 11 0).bind fun v1 =>
if v1 = 0 then
(if x1 = 0 then
((wrF σ x0 11 0 (.int (x2))).bind fun σ13 =>
(gI σ13 x0 11 0).bind fun v17 =>
if v17 = 0 then
(some (1, σ13))
else
(some (0, σ13)))
else
((gI σ x0 11 0).bind fun v17 =>
if v17 = 0 then
(some (1, σ))
else
(some (0, σ))))
else
((gI σ x0 11 0).bind fun v17 =>
if v17 = 0 then
(some (1, σ))
else
(some (0, σ)))
set_option maxHeartbeats 4000000 in
set_option maxRecDepth 100000 in
theorem cX12_rightc {l : Launch} {G : xG} {A : Nat → Prop} {σ : St} {x0 : Nat} {x1 : Int32} {x2 : Int32} {c : (Int32 × St)} (hf : fX12_right σ x0 x1 x2 = some c) : Con l yX12_right (xws yX12_right cX12_right 3 (some .boolean)) rmX12_right [.ref (x0), .int (x1), .int (x2)] G A σ (some (.int c.1)) c.2 := by
  refine x_start rfl (Nat.le_of_ble_eq_true rfl) (fun X _ _ _ C hE0 => ?_)
  have hE : ∀ r, c = r → xE1 X (some (.int r.1)) r.2 := fun r e => e ▸ hE0
  show V X (0, 0) σ 0 [(0, .ref (x0)), (1, .int (x1)), (2, .int (x2))] []
  unfold fX12_right at hf
  refine x_aload_n C dX12_right_0 1 rfl 0 rfl rfl ?_
  obtain ⟨v1, hv1, hf⟩ := x_bind hf
  refine x_getI C dX12_right_1 4 rfl hv1 cl11 rfl w1443 ?_
  refine x_if_ne C dX12_right_4 16 (by decide) 7 rfl (fun hc => ?_) (fun hc => ?_)
  · have hf := (if_neg hc).symm.trans hf
    refine x_aload_n C dX12_right_16 17 rfl 0 rfl rfl ?_
    obtain ⟨v17, hv17, hf⟩ := x_bind hf
    refine x_getI C dX12_right_17 20 rfl hv17 cl11 rfl w1443 ?_
    refine x_if_ne C dX12_right_20 27 (by decide) 23 rfl (fun hc => ?_) (fun hc => ?_)
    · have hf := (if_neg hc).symm.trans hf
      refine x_iconst C dX12_right_27 28 rfl 0 (by decide) ?_
      exact x_zret C rfl (hE _ (Option.some.inj hf).symm) dX12_right_28
    · have hf := (if_pos hc).symm.trans hf
      refine x_iconst C dX12_right_23 24 rfl 1 (by decide) ?_
      refine x_goto C dX12_right_24 28 (by decide) ?_
      exact x_zret C rfl (hE _ (Option.some.inj hf).symm) dX12_right_28
  · have hf := (if_pos hc).symm.trans hf
    refine x_iload_n C dX12_right_7 8 rfl 1 rfl rfl ?_
    refine x_if_ne C dX12_right_8 16 (by decide) 11 rfl (fun hc => ?_) (fun hc => ?_)
    · have hf := (if_neg hc).symm.trans hf
      refine x_aload_n C dX12_right_16 17 rfl 0 rfl rfl ?_
      obtain ⟨v17, hv17, hf⟩ := x_bind hf
      refine x_getI C dX12_right_17 20 rfl hv17 cl11 rfl w1443 ?_
      refine x_if_ne C dX12_right_20 27 (by decide) 23 rfl (fun hc => ?_) (fun hc => ?_)
      · have hf := (if_neg hc).symm.trans hf
        refine x_iconst C dX12_right_27 28 rfl 0 (by decide) ?_
        exact x_zret C rfl (hE _ (Option.some.inj hf).symm) dX12_right_28
      · have hf := (if_pos hc).symm.trans hf
        refine x_iconst C dX12_right_23 24 rfl 1 (by decide) ?_
        refine x_goto C dX12_right_24 28 (by decide) ?_
        exact x_zret C rfl (hE _ (Option.some.inj hf).symm) dX12_right_28
    · have hf := (if_pos hc).symm.trans hf
      refine x_aload_n C dX12_right_11 12 rfl 0 rfl rfl ?_
      refine x_iload_n C dX12_right_12 13 rfl 2 rfl rfl ?_
      obtain ⟨σ13, hσ13, hf⟩ := x_bind hf
      refine x_putX C dX12_right_13 16 rfl hσ13 cl11 rfl w1443 rfl rfl rfl ?_
      refine x_aload_n C dX12_right_16 17 rfl 0 rfl rfl ?_
      obtain ⟨v17, hv17, hf⟩ := x_bind hf
      refine x_getI C dX12_right_17 20 rfl hv17 cl11 rfl w1443 ?_
      refine x_if_ne C dX12_right_20 27 (by decide) 23 rfl (fun hc => ?_) (fun hc => ?_)
      · have hf := (if_neg hc).symm.trans hf
        refine x_iconst C dX12_right_27 28 rfl 0 (by decide) ?_
        exact x_zret C rfl (hE _ (Option.some.inj hf).symm) dX12_right_28
      · have hf := (if_pos hc).symm.trans hf
        refine x_iconst C dX12_right_23 24 rfl 1 (by decide) ?_
        refine x_goto C dX12_right_24 28 (by decide) ?_
        exact x_zret C rfl (hE _ (Option.some.inj hf).symm) dX12_right_28
theorem dX12_areKin_0 : decode cX12_areKin 0 = .ok (.aload_n 0, 1) := by decide +kernel
theorem dX12_areKin_1 : decode cX12_areKin 1 = .ok (.iconst 0, 1) := by decide +kernel
theorem dX12_areKin_2 : decode cX12_areKin 2 = .ok (.putfield 1, 3) := by decide +kernel
theorem dX12_areKin_5 : decode cX12_areKin 5 = .ok (.aload_n 0, 1) := by decide +kernel
theorem dX12_areKin_6 : decode cX12_areKin 6 = .ok (.aload_n 0, 1) := by decide +kernel
theorem dX12_areKin_7 : decode cX12_areKin 7 = .ok (.iload_n 1, 1) := by decide +kernel
theorem dX12_areKin_8 : decode cX12_areKin 8 = .ok (.invokevirtual 422, 3) := by decide +kernel
theorem dX12_areKin_11 : decode cX12_areKin 11 = .ok (.ifCond .eq 15, 3) := by decide +kernel
theorem dX12_areKin_14 : decode cX12_areKin 14 = .ok (.aload_n 0, 1) := by decide +kernel
theorem dX12_areKin_15 : decode cX12_areKin 15 = .ok (.iload_n 2, 1) := by decide +kernel
theorem dX12_areKin_16 : decode cX12_areKin 16 = .ok (.invokevirtual 422, 3) := by decide +kernel
theorem dX12_areKin_19 : decode cX12_areKin 19 = .ok (.ifCond .eq 7, 3) := by decide +kernel
theorem dX12_areKin_22 : decode cX12_areKin 22 = .ok (.iconst 1, 1) := by decide +kernel
theorem dX12_areKin_23 : decode cX12_areKin 23 = .ok (.goto 4, 3) := by decide +kernel
theorem dX12_areKin_26 : decode cX12_areKin 26 = .ok (.iconst 0, 1) := by decide +kernel
theorem dX12_areKin_27 : decode cX12_areKin 27 = .ok (.iconst 1, 1) := by decide +kernel
theorem dX12_areKin_28 : decode cX12_areKin 28 = .ok (.invokevirtual 265, 3) := by decide +kernel
theorem dX12_areKin_31 : decode cX12_areKin 31 = .ok (.ifCond .eq 27, 3) := by decide +kernel
theorem dX12_areKin_34 : decode cX12_areKin 34 = .ok (.aload_n 0, 1) := by decide +kernel
theorem dX12_areKin_35 : decode cX12_areKin 35 = .ok (.iload_n 1, 1) := by decide +kernel
theorem dX12_areKin_36 : decode cX12_areKin 36 = .ok (.iload_n 2, 1) := by decide +kernel
theorem dX12_areKin_37 : decode cX12_areKin 37 = .ok (.iconst 0, 1) := by decide +kernel
theorem dX12_areKin_38 : decode cX12_areKin 38 = .ok (.invokevirtual 448, 3) := by decide +kernel
theorem dX12_areKin_41 : decode cX12_areKin 41 = .ok (.ifCond .ne 13, 3) := by decide +kernel
theorem dX12_areKin_44 : decode cX12_areKin 44 = .ok (.aload_n 0, 1) := by decide +kernel
theorem dX12_areKin_45 : decode cX12_areKin 45 = .ok (.iload_n 1, 1) := by decide +kernel
theorem dX12_areKin_46 : decode cX12_areKin 46 = .ok (.iload_n 2, 1) := by decide +kernel
theorem dX12_areKin_47 : decode cX12_areKin 47 = .ok (.iconst 1, 1) := by decide +kernel
theorem dX12_areKin_48 : decode cX12_areKin 48 = .ok (.invokevirtual 448, 3) := by decide +kernel
theorem dX12_areKin_51 : decode cX12_areKin 51 = .ok (.ifCond .eq 7, 3) := by decide +kernel
theorem dX12_areKin_54 : decode cX12_areKin 54 = .ok (.iconst 1, 1) := by decide +kernel
theorem dX12_areKin_55 : decode cX12_areKin 55 = .ok (.goto 4, 3) := by decide +kernel
theorem dX12_areKin_58 : decode cX12_areKin 58 = .ok (.iconst 0, 1) := by decide +kernel
theorem dX12_areKin_59 : decode cX12_areKin 59 = .ok (.ireturn, 1) := by decide +kernel
abbrev rmX12_areKin : Room := { frames := 5, cells := 0, slots := 0, locals := 124 }
noncomputable def fJX12_areKin_m_27 (σ : St) (x0 : Nat) (x1 : Int32) (x2 : Int32) (t0 : Int32) (t1 : Nat) : Option ((Int32 × St)) :=
(isO σ t1 11).bind fun _ =>
(fX12_right σ t1 t0 1).bind fun w28 =>
if w28.1 = 0 then
(some (0, w28.2))
else
((isO w28.2 x0 11).bind fun _ =>
(fX12_isKin w28.2 x0 x1 x2 0).bind fun w38 =>
if w38.1 = 0 then
((isO w38.2 x0 11).bind fun _ =>
(fX12_isKin w38.2 x0 x1 x2 1).bind fun w48 =>
if w48.1 = 0 then
(some (0, w48.2))
else
(some (1, w48.2)))
else
(some (1, w38.2)))
set_option maxHeartbeats 4000000 in
set_option maxRecDepth 100000 in
theorem jnX12_areKin_m_27 {X : xX} {σ : St} {x0 : Nat} {x1 : Int32} {x2 : Int32} {t0 : Int32} {t1 : Nat}  {c : (Int32 × St)} (C : Ok X cX12_areKin 3 RX12 rmX12_areKin (some .boolean)) (hf : fJX12_areKin_m_27 σ x0 x1 x2 t0 t1 = some c) (hE : ∀ r, c = r → xE1 X (some (.int r.1)) r.2) : V X (0, 0) σ 27 [(0, .ref (x0)), (1, .int (x1)), (2, .int (x2))] [.int (t0), .ref (t1)] := by
  unfold fJX12_areKin_m_27 at hf
  refine x_iconst C dX12_areKin_27 28 rfl 1 (by decide) ?_
  obtain ⟨o28, ho28, hf⟩ := x_bind hf
  obtain ⟨w28, hw28, hf⟩ := x_bind hf
  refine x_callVi C dX12_areKin_28 31 rfl ho28 cl11.1 rfl (cX12_rightc hw28) kX12_right kvX12_right w1648 ⟨rfl, rfl⟩ ⟨Nat.le_of_ble_eq_true rfl, Nat.le_of_ble_eq_true rfl⟩ ⟨Nat.zero_le _, Nat.zero_le _⟩ rfl rfl (Nat.le_of_ble_eq_true rfl) ?_
  refine x_if_eq C dX12_areKin_31 58 (by decide) 34 rfl (fun hc => ?_) (fun hc => ?_)
  · have hf := (if_pos hc).symm.trans hf
    refine x_iconst C dX12_areKin_58 59 rfl 0 (by decide) ?_
    exact x_zret C rfl (hE _ (Option.some.inj hf).symm) dX12_areKin_59
  · have hf := (if_neg hc).symm.trans hf
    refine x_aload_n C dX12_areKin_34 35 rfl 0 rfl rfl ?_
    refine x_iload_n C dX12_areKin_35 36 rfl 1 rfl rfl ?_
    refine x_iload_n C dX12_areKin_36 37 rfl 2 rfl rfl ?_
    refine x_iconst C dX12_areKin_37 38 rfl 0 (by decide) ?_
    obtain ⟨o38, ho38, hf⟩ := x_bind hf
    obtain ⟨w38, hw38, hf⟩ := x_bind hf
    refine x_callVi C dX12_areKin_38 41 rfl ho38 cl11.1 rfl (cX12_isKinc hw38) kX12_isKin kvX12_isKin w1930 ⟨rfl, rfl⟩ ⟨Nat.le_of_ble_eq_true rfl, Nat.le_of_ble_eq_true rfl⟩ ⟨Nat.zero_le _, Nat.zero_le _⟩ rfl rfl (Nat.le_of_ble_eq_true rfl) ?_
    refine x_if_ne C dX12_areKin_41 54 (by decide) 44 rfl (fun hc => ?_) (fun hc => ?_)
    · have hf := (if_neg hc).symm.trans hf
      refine x_iconst C dX12_areKin_54 55 rfl 1 (by decide) ?_
      refine x_goto C dX12_areKin_55 59 (by decide) ?_
      exact x_zret C rfl (hE _ (Option.some.inj hf).symm) dX12_areKin_59
    · have hf := (if_pos hc).symm.trans hf
      refine x_aload_n C dX12_areKin_44 45 rfl 0 rfl rfl ?_
      refine x_iload_n C dX12_areKin_45 46 rfl 1 rfl rfl ?_
      refine x_iload_n C dX12_areKin_46 47 rfl 2 rfl rfl ?_
      refine x_iconst C dX12_areKin_47 48 rfl 1 (by decide) ?_
      obtain ⟨o48, ho48, hf⟩ := x_bind hf
      obtain ⟨w48, hw48, hf⟩ := x_bind hf
      refine x_callVi C dX12_areKin_48 51 rfl ho48 cl11.1 rfl (cX12_isKinc hw48) kX12_isKin kvX12_isKin w1930 ⟨rfl, rfl⟩ ⟨Nat.le_of_ble_eq_true rfl, Nat.le_of_ble_eq_true rfl⟩ ⟨Nat.zero_le _, Nat.zero_le _⟩ rfl rfl (Nat.le_of_ble_eq_true rfl) ?_
      refine x_if_eq C dX12_areKin_51 58 (by decide) 54 rfl (fun hc => ?_) (fun hc => ?_)
      · have hf := (if_pos hc).symm.trans hf
        refine x_iconst C dX12_areKin_58 59 rfl 0 (by decide) ?_
        exact x_zret C rfl (hE _ (Option.some.inj hf).symm) dX12_areKin_59
      · have hf := (if_neg hc).symm.trans hf
        refine x_iconst C dX12_areKin_54 55 rfl 1 (by decide) ?_
        refine x_goto C dX12_areKin_55 59 (by decide) ?_
        exact x_zret C rfl (hE _ (Option.some.inj hf).symm) dX12_areKin_59
noncomputable def fJX12_areKin_m_26 (σ : St) (x0 : Nat) (x1 : Int32) (x2 : Int32) (t0 : Nat) : Option ((Int32 × St)) :=
fJX12_areKin_m_27 σ x0 x1 x2 0 t0
set_option maxHeartbeats 4000000 in
set_option maxRecDepth 100000 in
theorem jnX12_areKin_m_26 {X : xX} {σ : St} {x0 : Nat} {x1 : Int32} {x2 : Int32} {t0 : Nat}  {c : (Int32 × St)} (C : Ok X cX12_areKin 3 RX12 rmX12_areKin (some .boolean)) (hf : fJX12_areKin_m_26 σ x0 x1 x2 t0 = some c) (hE : ∀ r, c = r → xE1 X (some (.int r.1)) r.2) : V X (0, 0) σ 26 [(0, .ref (x0)), (1, .int (x1)), (2, .int (x2))] [.ref (t0)] := by
  unfold fJX12_areKin_m_26 at hf
  refine x_iconst C dX12_areKin_26 27 rfl 0 (by decide) ?_
  exact jnX12_areKin_m_27 C hf hE
noncomputable def fX12_areKin (σ : St) (x0 : Nat) (x1 : Int32) (x2 : Int32) : Option ((Int32 × St)) :=
(wrF σ x0 11 0 (.int (0))).bind fun σ2 =>
(isO σ2 x0 11).bind fun _ =>
(fX12_isRule σ2 x0 x1).bind fun w8 =>
if w8 = 0 then
(fJX12_areKin_m_26 σ2 x0 x1 x2 x0)
else
((isO σ2 x0 11).bind fun _ =>
(fX12_isRule σ2 x0 x2).bind fun w16 =>
if w16 = 0 then
(fJX12_areKin_m_26 σ2 x0 x1 x2 x0)
else
(fJX12_areKin_m_27 σ2 x0 x1 x2 1 x0))
set_option maxHeartbeats 4000000 in
set_option maxRecDepth 100000 in
theorem cX12_areKinc {l : Launch} {G : xG} {A : Nat → Prop} {σ : St} {x0 : Nat} {x1 : Int32} {x2 : Int32} {c : (Int32 × St)} (hf : fX12_areKin σ x0 x1 x2 = some c) : Con l yX12_areKin (xws yX12_areKin cX12_areKin 3 (some .boolean)) rmX12_areKin [.ref (x0), .int (x1), .int (x2)] G A σ (some (.int c.1)) c.2 := by
  refine x_start rfl (Nat.le_of_ble_eq_true rfl) (fun X _ _ _ C hE0 => ?_)
  have hE : ∀ r, c = r → xE1 X (some (.int r.1)) r.2 := fun r e => e ▸ hE0
  show V X (0, 0) σ 0 [(0, .ref (x0)), (1, .int (x1)), (2, .int (x2))] []
  unfold fX12_areKin at hf
  refine x_aload_n C dX12_areKin_0 1 rfl 0 rfl rfl ?_
  refine x_iconst C dX12_areKin_1 2 rfl 0 (by decide) ?_
  obtain ⟨σ2, hσ2, hf⟩ := x_bind hf
  refine x_putX C dX12_areKin_2 5 rfl hσ2 cl11 rfl w1443 rfl rfl rfl ?_
  refine x_aload_n C dX12_areKin_5 6 rfl 0 rfl rfl ?_
  refine x_aload_n C dX12_areKin_6 7 rfl 0 rfl rfl ?_
  refine x_iload_n C dX12_areKin_7 8 rfl 1 rfl rfl ?_
  obtain ⟨o8, ho8, hf⟩ := x_bind hf
  obtain ⟨w8, hw8, hf⟩ := x_bind hf
  refine x_callVi C dX12_areKin_8 11 rfl ho8 cl11.1 rfl (cX12_isRulec hw8) kX12_isRule kvX12_isRule w1888 ⟨rfl, rfl⟩ ⟨Nat.le_of_ble_eq_true rfl, Nat.le_of_ble_eq_true rfl⟩ ⟨Nat.zero_le _, Nat.zero_le _⟩ rfl rfl (Nat.le_of_ble_eq_true rfl) ?_
  refine x_if_eq C dX12_areKin_11 26 (by decide) 14 rfl (fun hc => ?_) (fun hc => ?_)
  · have hf := (if_pos hc).symm.trans hf
    exact jnX12_areKin_m_26 C hf hE
  · have hf := (if_neg hc).symm.trans hf
    refine x_aload_n C dX12_areKin_14 15 rfl 0 rfl rfl ?_
    refine x_iload_n C dX12_areKin_15 16 rfl 2 rfl rfl ?_
    obtain ⟨o16, ho16, hf⟩ := x_bind hf
    obtain ⟨w16, hw16, hf⟩ := x_bind hf
    refine x_callVi C dX12_areKin_16 19 rfl ho16 cl11.1 rfl (cX12_isRulec hw16) kX12_isRule kvX12_isRule w1888 ⟨rfl, rfl⟩ ⟨Nat.le_of_ble_eq_true rfl, Nat.le_of_ble_eq_true rfl⟩ ⟨Nat.zero_le _, Nat.zero_le _⟩ rfl rfl (Nat.le_of_ble_eq_true rfl) ?_
    refine x_if_eq C dX12_areKin_19 26 (by decide) 22 rfl (fun hc => ?_) (fun hc => ?_)
    · have hf := (if_pos hc).symm.trans hf
      exact jnX12_areKin_m_26 C hf hE
    · have hf := (if_neg hc).symm.trans hf
      refine x_iconst C dX12_areKin_22 23 rfl 1 (by decide) ?_
      refine x_goto C dX12_areKin_23 27 (by decide) ?_
      exact jnX12_areKin_m_27 C hf hE
theorem dX12_areLetters_0 : decode cX12_areLetters 0 = .ok (.iload_n 1, 1) := by decide +kernel
theorem dX12_areLetters_1 : decode cX12_areLetters 1 = .ok (.istore 5, 2) := by decide +kernel
theorem dX12_areLetters_3 : decode cX12_areLetters 3 = .ok (.iload 5, 2) := by decide +kernel
theorem dX12_areLetters_5 : decode cX12_areLetters 5 = .ok (.iload_n 2, 1) := by decide +kernel
theorem dX12_areLetters_6 : decode cX12_areLetters 6 = .ok (.if_icmp .ge 35, 3) := by decide +kernel
theorem dX12_areLetters_9 : decode cX12_areLetters 9 = .ok (.aload_n 0, 1) := by decide +kernel
theorem dX12_areLetters_10 : decode cX12_areLetters 10 = .ok (.getfield 23, 3) := by decide +kernel
theorem dX12_areLetters_13 : decode cX12_areLetters 13 = .ok (.iload 5, 2) := by decide +kernel
theorem dX12_areLetters_15 : decode cX12_areLetters 15 = .ok (.baload, 1) := by decide +kernel
theorem dX12_areLetters_16 : decode cX12_areLetters 16 = .ok (.i2l, 1) := by decide +kernel
theorem dX12_areLetters_17 : decode cX12_areLetters 17 = .ok (.ldc2_w 178, 3) := by decide +kernel
theorem dX12_areLetters_20 : decode cX12_areLetters 20 = .ok (.ldc2_w 178, 3) := by decide +kernel
theorem dX12_areLetters_23 : decode cX12_areLetters 23 = .ok (.lload_n 3, 1) := by decide +kernel
theorem dX12_areLetters_24 : decode cX12_areLetters 24 = .ok (.ladd, 1) := by decide +kernel
theorem dX12_areLetters_25 : decode cX12_areLetters 25 = .ok (.lconst 1, 1) := by decide +kernel
theorem dX12_areLetters_26 : decode cX12_areLetters 26 = .ok (.lsub, 1) := by decide +kernel
theorem dX12_areLetters_27 : decode cX12_areLetters 27 = .ok (.invokestatic 130, 3) := by decide +kernel
theorem dX12_areLetters_30 : decode cX12_areLetters 30 = .ok (.ifCond .ne 5, 3) := by decide +kernel
theorem dX12_areLetters_33 : decode cX12_areLetters 33 = .ok (.iconst 0, 1) := by decide +kernel
theorem dX12_areLetters_34 : decode cX12_areLetters 34 = .ok (.ireturn, 1) := by decide +kernel
theorem dX12_areLetters_35 : decode cX12_areLetters 35 = .ok (.iinc 5 1, 3) := by decide +kernel
theorem dX12_areLetters_38 : decode cX12_areLetters 38 = .ok (.goto (-35), 3) := by decide +kernel
theorem dX12_areLetters_41 : decode cX12_areLetters 41 = .ok (.iconst 1, 1) := by decide +kernel
theorem dX12_areLetters_42 : decode cX12_areLetters 42 = .ok (.ireturn, 1) := by decide +kernel
abbrev rmX12_areLetters : Room := { frames := 1, cells := 0, slots := 0, locals := 25 }
noncomputable def fLX12_areLetters_3 (σ : St) (x0 : Nat) (x2 : Int32) (x3 : Int64) (a : Int32) : Option ((Int32) ⊕ ((Unit) ⊕ (Unit))) :=
if x2 ≤ a then
(some (Sum.inr (Sum.inr ())))
else
((gR σ x0 11 6).bind fun v10 =>
(aI σ v10 2 a).bind fun v15 =>
(fX12_isIn v15.toInt64 97 ((97 + x3) - 1)).bind fun w27 =>
if w27 = 0 then
(some (Sum.inr (Sum.inl ())))
else
(xlet (a + 1) fun v35 =>
some (Sum.inl v35)))
set_option maxHeartbeats 4000000 in
set_option maxRecDepth 100000 in
theorem lpX12_areLetters_3 {X : xX} {σ : St} {x0 : Nat} {x2 : Int32} {x3 : Int64}  {a0 : Int32} {b : (Unit) ⊕ (Unit)} (C : Ok X cX12_areLetters 6 RX12 rmX12_areLetters (some .boolean)) (hb : iterP (fLX12_areLetters_3 σ x0 x2 x3) a0 = some b) (hy0 : ∀ s, b = (Sum.inl s) → V X (0, 0) σ 33 [] []) (hy1 : ∀ s, b = (Sum.inr s) → V X (0, 0) σ 41 [] []) : V X (0, 0) σ 3 [(0, .ref (x0)), (2, .int (x2)), (3, .long (x3)), (5, .int (a0))] [] := by
  obtain ⟨n, hn⟩ := iterP_some hb
  refine x_loop (P := fun a => V X (0, 0) σ 3 [(0, .ref (x0)), (2, .int (x2)), (3, .long (x3)), (5, .int (a))] []) ?_ n a0 hn
  intro a c hf hK hxx
  have hx0 : ∀ s, c = Sum.inr (Sum.inl s) → V X (0, 0) σ 33 [] [] := fun s e => hy0 s (hxx _ e).symm
  have hx1 : ∀ s, c = Sum.inr (Sum.inr s) → V X (0, 0) σ 41 [] [] := fun s e => hy1 s (hxx _ e).symm
  unfold fLX12_areLetters_3 at hf
  refine x_iload C dX12_areLetters_3 5 rfl 3 rfl ?_
  refine x_iload_n C dX12_areLetters_5 6 rfl 1 rfl rfl ?_
  refine x_icmp_ge C dX12_areLetters_6 41 (by decide) 9 rfl (fun hc => ?_) (fun hc => ?_)
  · have hf := (if_pos hc).symm.trans hf
    refine x_lv [] (lv' := []) rfl ?_
    exact hx1 _ (Option.some.inj hf).symm
  · have hf := (if_neg hc).symm.trans hf
    refine x_aload_n C dX12_areLetters_9 10 rfl 0 rfl rfl ?_
    obtain ⟨v10, hv10, hf⟩ := x_bind hf
    refine x_getR C dX12_areLetters_10 13 rfl hv10 cl11 rfl w1449 ?_
    refine x_iload C dX12_areLetters_13 15 rfl 3 rfl ?_
    obtain ⟨v15, hv15, hf⟩ := x_bind hf
    refine x_baload C dX12_areLetters_15 16 rfl hv15 ?_
    refine x_i2l C dX12_areLetters_16 17 rfl ?_
    refine x_ldc2 C dX12_areLetters_17 20 rfl w1663 ?_
    refine x_ldc2 C dX12_areLetters_20 23 rfl w1663 ?_
    refine x_lload_n C dX12_areLetters_23 24 rfl 2 rfl rfl ?_
    refine x_ladd C dX12_areLetters_24 25 rfl ?_
    refine x_lconst C dX12_areLetters_25 26 rfl 1 (by decide) ?_
    refine x_lsub C dX12_areLetters_26 27 rfl ?_
    obtain ⟨w27, hw27, hf⟩ := x_bind hf
    refine x_callSi C dX12_areLetters_27 30 rfl (cX12_isInc hw27) kX12_isIn ksX12_isIn w1645 ⟨rfl, rfl⟩ ⟨Nat.le_of_ble_eq_true rfl, Nat.le_of_ble_eq_true rfl⟩ ⟨Nat.zero_le _, Nat.zero_le _⟩ rfl rfl (Nat.le_of_ble_eq_true rfl) ?_
    refine x_if_ne C dX12_areLetters_30 35 (by decide) 33 rfl (fun hc => ?_) (fun hc => ?_)
    · have hf := (if_neg hc).symm.trans hf
      obtain ⟨v35, ev35, hf⟩ := xlet_some hf
      refine x_iinc C dX12_areLetters_35 38 rfl 3 rfl v35 ev35 rfl [(5, .int (v35)), (0, .ref (x0)), (2, .int (x2)), (3, .long (x3))] rfl ?_
      refine x_goto C dX12_areLetters_38 3 (by decide) ?_
      refine x_lv [1, 2, 3, 0] (lv' := [(0, .ref (x0)), (2, .int (x2)), (3, .long (x3)), (5, .int (v35))]) rfl ?_
      exact hK _ (Option.some.inj hf).symm
    · have hf := (if_pos hc).symm.trans hf
      refine x_lv [] (lv' := []) rfl ?_
      exact hx0 _ (Option.some.inj hf).symm
noncomputable def fX12_areLetters (σ : St) (x0 : Nat) (x1 : Int32) (x2 : Int32) (x3 : Int64) : Option (Int32) :=
(iterP (fLX12_areLetters_3 σ x0 x2 x3) x1).bind fun b3 =>
(match b3 with
| .inl s3 =>
some 0
| .inr s3 =>
some 1)
set_option maxHeartbeats 4000000 in
set_option maxRecDepth 100000 in
theorem cX12_areLettersc {l : Launch} {G : xG} {A : Nat → Prop} {σ : St} {x0 : Nat} {x1 : Int32} {x2 : Int32} {x3 : Int64} {c : Int32} (hf : fX12_areLetters σ x0 x1 x2 x3 = some c) : Con l yX12_areLetters (xws yX12_areLetters cX12_areLetters 6 (some .boolean)) rmX12_areLetters [.ref (x0), .int (x1), .int (x2), .long (x3)] G A σ (some (.int c)) σ := by
  refine x_start rfl (Nat.le_of_ble_eq_true rfl) (fun X _ _ _ C hE0 => ?_)
  have hE : ∀ r, c = r → xE1 X (some (.int r)) σ := fun r e => e ▸ hE0
  show V X (0, 0) σ 0 [(0, .ref (x0)), (1, .int (x1)), (2, .int (x2)), (3, .long (x3))] []
  unfold fX12_areLetters at hf
  refine x_iload_n C dX12_areLetters_0 1 rfl 1 rfl rfl ?_
  refine x_istore C dX12_areLetters_1 3 rfl rfl [(5, .int (x1)), (0, .ref (x0)), (1, .int (x1)), (2, .int (x2)), (3, .long (x3))] rfl ?_
  obtain ⟨b3, hb3, hf⟩ := x_bind hf
  refine x_lv [1, 3, 4, 0] (lv' := [(0, .ref (x0)), (2, .int (x2)), (3, .long (x3)), (5, .int (x1))]) rfl ?_
  refine lpX12_areLetters_3 C hb3 (fun s3 e3 => ?_) (fun s3 e3 => ?_)
  · subst e3
    try dsimp only at hf
    refine x_iconst C dX12_areLetters_33 34 rfl 0 (by decide) ?_
    exact x_zret C rfl (hE _ (Option.some.inj hf).symm) dX12_areLetters_34
  · subst e3
    try dsimp only at hf
    refine x_iconst C dX12_areLetters_41 42 rfl 1 (by decide) ?_
    exact x_zret C rfl (hE _ (Option.some.inj hf).symm) dX12_areLetters_42
theorem dX12_isPlace_0 : decode cX12_isPlace 0 = .ok (.iload_n 0, 1) := by decide +kernel
theorem dX12_isPlace_1 : decode cX12_isPlace 1 = .ok (.i2l, 1) := by decide +kernel
theorem dX12_isPlace_2 : decode cX12_isPlace 2 = .ok (.lconst 0, 1) := by decide +kernel
theorem dX12_isPlace_3 : decode cX12_isPlace 3 = .ok (.ldc2_w 128, 3) := by decide +kernel
theorem dX12_isPlace_6 : decode cX12_isPlace 6 = .ok (.invokestatic 130, 3) := by decide +kernel
theorem dX12_isPlace_9 : decode cX12_isPlace 9 = .ok (.ireturn, 1) := by decide +kernel
abbrev rmX12_isPlace : Room := { frames := 1, cells := 0, slots := 0, locals := 25 }
noncomputable def fX12_isPlace (x0 : Int32) : Option (Int32) :=
(fX12_isIn x0.toInt64 0 5).bind fun w6 =>
(zok w6).bind fun z9 =>
some z9
set_option maxHeartbeats 4000000 in
set_option maxRecDepth 100000 in
theorem cX12_isPlacec {l : Launch} {G : xG} {A : Nat → Prop} {σ : St} {x0 : Int32} {c : Int32} (hf : fX12_isPlace x0 = some c) : Con l yX12_isPlace (xws yX12_isPlace cX12_isPlace 1 (some .boolean)) rmX12_isPlace [.int (x0)] G A σ (some (.int c)) σ := by
  refine x_start rfl (Nat.le_of_ble_eq_true rfl) (fun X _ _ _ C hE0 => ?_)
  have hE : ∀ r, c = r → xE1 X (some (.int r)) σ := fun r e => e ▸ hE0
  show V X (0, 0) σ 0 [(0, .int (x0))] []
  unfold fX12_isPlace at hf
  refine x_iload_n C dX12_isPlace_0 1 rfl 0 rfl rfl ?_
  refine x_i2l C dX12_isPlace_1 2 rfl ?_
  refine x_lconst C dX12_isPlace_2 3 rfl 0 (by decide) ?_
  refine x_ldc2 C dX12_isPlace_3 6 rfl w1945 ?_
  obtain ⟨w6, hw6, hf⟩ := x_bind hf
  refine x_callSi C dX12_isPlace_6 9 rfl (cX12_isInc hw6) kX12_isIn ksX12_isIn w1645 ⟨rfl, rfl⟩ ⟨Nat.le_of_ble_eq_true rfl, Nat.le_of_ble_eq_true rfl⟩ ⟨Nat.zero_le _, Nat.zero_le _⟩ rfl rfl (Nat.le_of_ble_eq_true rfl) ?_
  obtain ⟨z9, hz9, hf⟩ := x_bind hf
  refine x_topi (zok_nar hz9).1 ?_
  exact x_zret C (zok_w hz9) (hE _ (Option.some.inj hf).symm) dX12_isPlace_9
theorem dX12_draws_0 : decode cX12_draws 0 = .ok (.aload_n 0, 1) := by decide +kernel
theorem dX12_draws_1 : decode cX12_draws 1 = .ok (.getfield 67, 3) := by decide +kernel
theorem dX12_draws_4 : decode cX12_draws 4 = .ok (.aload_n 0, 1) := by decide +kernel
theorem dX12_draws_5 : decode cX12_draws 5 = .ok (.getfield 517, 3) := by decide +kernel
theorem dX12_draws_8 : decode cX12_draws 8 = .ok (.iload_n 1, 1) := by decide +kernel
theorem dX12_draws_9 : decode cX12_draws 9 = .ok (.iastore, 1) := by decide +kernel
theorem dX12_draws_10 : decode cX12_draws 10 = .ok (.aload_n 0, 1) := by decide +kernel
theorem dX12_draws_11 : decode cX12_draws 11 = .ok (.getfield 70, 3) := by decide +kernel
theorem dX12_draws_14 : decode cX12_draws 14 = .ok (.aload_n 0, 1) := by decide +kernel
theorem dX12_draws_15 : decode cX12_draws 15 = .ok (.getfield 517, 3) := by decide +kernel
theorem dX12_draws_18 : decode cX12_draws 18 = .ok (.iconst (-1), 1) := by decide +kernel
theorem dX12_draws_19 : decode cX12_draws 19 = .ok (.iastore, 1) := by decide +kernel
theorem dX12_draws_20 : decode cX12_draws 20 = .ok (.aload_n 0, 1) := by decide +kernel
theorem dX12_draws_21 : decode cX12_draws 21 = .ok (.dup, 1) := by decide +kernel
theorem dX12_draws_22 : decode cX12_draws 22 = .ok (.getfield 517, 3) := by decide +kernel
theorem dX12_draws_25 : decode cX12_draws 25 = .ok (.iconst 1, 1) := by decide +kernel
theorem dX12_draws_26 : decode cX12_draws 26 = .ok (.iadd, 1) := by decide +kernel
theorem dX12_draws_27 : decode cX12_draws 27 = .ok (.putfield 517, 3) := by decide +kernel
theorem dX12_draws_30 : decode cX12_draws 30 = .ok (.aload_n 0, 1) := by decide +kernel
theorem dX12_draws_31 : decode cX12_draws 31 = .ok (.getfield 517, 3) := by decide +kernel
theorem dX12_draws_34 : decode cX12_draws 34 = .ok (.iconst 1, 1) := by decide +kernel
theorem dX12_draws_35 : decode cX12_draws 35 = .ok (.isub, 1) := by decide +kernel
theorem dX12_draws_36 : decode cX12_draws 36 = .ok (.ireturn, 1) := by decide +kernel
abbrev rmX12_draws : Room := { frames := 0, cells := 0, slots := 0, locals := 0 }
noncomputable def fX12_draws (σ : St) (x0 : Nat) (x1 : Int32) : Option ((Int32 × St)) :=
(gR σ x0 11 42).bind fun v1 =>
(gI σ x0 11 44).bind fun v5 =>
(sI σ v1 v5 x1).bind fun σ9 =>
(gR σ9 x0 11 43).bind fun v11 =>
(gI σ9 x0 11 44).bind fun v15 =>
(sI σ9 v11 v15 (-1)).bind fun σ19 =>
(gI σ19 x0 11 44).bind fun v22 =>
(wrF σ19 x0 11 44 (.int (v22 + 1))).bind fun σ27 =>
(gI σ27 x0 11 44).bind fun v31 =>
some (v31 - 1, σ27)
set_option maxHeartbeats 4000000 in
set_option maxRecDepth 100000 in
theorem cX12_drawsc {l : Launch} {G : xG} {A : Nat → Prop} {σ : St} {x0 : Nat} {x1 : Int32} {c : (Int32 × St)} (hf : fX12_draws σ x0 x1 = some c) : Con l yX12_draws (xws yX12_draws cX12_draws 2 (some .int)) rmX12_draws [.ref (x0), .int (x1)] G A σ (some (.int c.1)) c.2 := by
  refine x_start rfl (Nat.le_of_ble_eq_true rfl) (fun X _ _ _ C hE0 => ?_)
  have hE : ∀ r, c = r → xE1 X (some (.int r.1)) r.2 := fun r e => e ▸ hE0
  show V X (0, 0) σ 0 [(0, .ref (x0)), (1, .int (x1))] []
  unfold fX12_draws at hf
  refine x_aload_n C dX12_draws_0 1 rfl 0 rfl rfl ?_
  obtain ⟨v1, hv1, hf⟩ := x_bind hf
  refine x_getR C dX12_draws_1 4 rfl hv1 cl11 rfl w1485 ?_
  refine x_aload_n C dX12_draws_4 5 rfl 0 rfl rfl ?_
  obtain ⟨v5, hv5, hf⟩ := x_bind hf
  refine x_getI C dX12_draws_5 8 rfl hv5 cl11 rfl w1487 ?_
  refine x_iload_n C dX12_draws_8 9 rfl 1 rfl rfl ?_
  obtain ⟨σ9, hσ9, hf⟩ := x_bind hf
  refine x_iastore C dX12_draws_9 10 rfl hσ9 ?_
  refine x_aload_n C dX12_draws_10 11 rfl 0 rfl rfl ?_
  obtain ⟨v11, hv11, hf⟩ := x_bind hf
  refine x_getR C dX12_draws_11 14 rfl hv11 cl11 rfl w1486 ?_
  refine x_aload_n C dX12_draws_14 15 rfl 0 rfl rfl ?_
  obtain ⟨v15, hv15, hf⟩ := x_bind hf
  refine x_getI C dX12_draws_15 18 rfl hv15 cl11 rfl w1487 ?_
  refine x_iconst C dX12_draws_18 19 rfl (-1) (by decide) ?_
  obtain ⟨σ19, hσ19, hf⟩ := x_bind hf
  refine x_iastore C dX12_draws_19 20 rfl hσ19 ?_
  refine x_aload_n C dX12_draws_20 21 rfl 0 rfl rfl ?_
  refine x_dup C dX12_draws_21 22 rfl rfl ?_
  obtain ⟨v22, hv22, hf⟩ := x_bind hf
  refine x_getI C dX12_draws_22 25 rfl hv22 cl11 rfl w1487 ?_
  refine x_iconst C dX12_draws_25 26 rfl 1 (by decide) ?_
  refine x_iadd C dX12_draws_26 27 rfl ?_
  obtain ⟨σ27, hσ27, hf⟩ := x_bind hf
  refine x_putX C dX12_draws_27 30 rfl hσ27 cl11 rfl w1487 rfl rfl rfl ?_
  refine x_aload_n C dX12_draws_30 31 rfl 0 rfl rfl ?_
  obtain ⟨v31, hv31, hf⟩ := x_bind hf
  refine x_getI C dX12_draws_31 34 rfl hv31 cl11 rfl w1487 ?_
  refine x_iconst C dX12_draws_34 35 rfl 1 (by decide) ?_
  refine x_isub C dX12_draws_35 36 rfl ?_
  exact x_iret C (hE _ (Option.some.inj hf).symm) dX12_draws_36
theorem dX12_place_0 : decode cX12_place 0 = .ok (.bipush 36, 2) := by decide +kernel
theorem dX12_place_2 : decode cX12_place 2 = .ok (.bipush 43, 2) := by decide +kernel
theorem dX12_place_4 : decode cX12_place 4 = .ok (.iload_n 0, 1) := by decide +kernel
theorem dX12_place_5 : decode cX12_place 5 = .ok (.imul, 1) := by decide +kernel
theorem dX12_place_6 : decode cX12_place 6 = .ok (.iadd, 1) := by decide +kernel
theorem dX12_place_7 : decode cX12_place 7 = .ok (.iload_n 1, 1) := by decide +kernel
theorem dX12_place_8 : decode cX12_place 8 = .ok (.iadd, 1) := by decide +kernel
theorem dX12_place_9 : decode cX12_place 9 = .ok (.ireturn, 1) := by decide +kernel
abbrev rmX12_place : Room := { frames := 0, cells := 0, slots := 0, locals := 0 }
noncomputable def fX12_place (x0 : Int32) (x1 : Int32) : Option (Int32) :=
some ((36 + (43 * x0)) + x1)
set_option maxHeartbeats 4000000 in
set_option maxRecDepth 100000 in
theorem cX12_placec {l : Launch} {G : xG} {A : Nat → Prop} {σ : St} {x0 : Int32} {x1 : Int32} {c : Int32} (hf : fX12_place x0 x1 = some c) : Con l yX12_place (xws yX12_place cX12_place 2 (some .int)) rmX12_place [.int (x0), .int (x1)] G A σ (some (.int c)) σ := by
  refine x_start rfl (Nat.le_of_ble_eq_true rfl) (fun X _ _ _ C hE0 => ?_)
  have hE : ∀ r, c = r → xE1 X (some (.int r)) σ := fun r e => e ▸ hE0
  show V X (0, 0) σ 0 [(0, .int (x0)), (1, .int (x1))] []
  unfold fX12_place at hf
  refine x_bipush C dX12_place_0 2 rfl 36 (by decide) ?_
  refine x_bipush C dX12_place_2 4 rfl 43 (by decide) ?_
  refine x_iload_n C dX12_place_4 5 rfl 0 rfl rfl ?_
  refine x_imul C dX12_place_5 6 rfl ?_
  refine x_iadd C dX12_place_6 7 rfl ?_
  refine x_iload_n C dX12_place_7 8 rfl 1 rfl rfl ?_
  refine x_iadd C dX12_place_8 9 rfl ?_
  exact x_iret C (hE _ (Option.some.inj hf).symm) dX12_place_9
theorem dX12_begins_0 : decode cX12_begins 0 = .ok (.aload_n 0, 1) := by decide +kernel
theorem dX12_begins_1 : decode cX12_begins 1 = .ok (.iconst 0, 1) := by decide +kernel
theorem dX12_begins_2 : decode cX12_begins 2 = .ok (.putfield 517, 3) := by decide +kernel
theorem dX12_begins_5 : decode cX12_begins 5 = .ok (.aload_n 0, 1) := by decide +kernel
theorem dX12_begins_6 : decode cX12_begins 6 = .ok (.aload_n 0, 1) := by decide +kernel
theorem dX12_begins_7 : decode cX12_begins 7 = .ok (.getfield 13, 3) := by decide +kernel
theorem dX12_begins_10 : decode cX12_begins 10 = .ok (.iload_n 1, 1) := by decide +kernel
theorem dX12_begins_11 : decode cX12_begins 11 = .ok (.iconst 1, 1) := by decide +kernel
theorem dX12_begins_12 : decode cX12_begins 12 = .ok (.invokestatic 124, 3) := by decide +kernel
theorem dX12_begins_15 : decode cX12_begins 15 = .ok (.laload, 1) := by decide +kernel
theorem dX12_begins_16 : decode cX12_begins 16 = .ok (.invokestatic 136, 3) := by decide +kernel
theorem dX12_begins_19 : decode cX12_begins 19 = .ok (.putfield 520, 3) := by decide +kernel
theorem dX12_begins_22 : decode cX12_begins 22 = .ok (.iconst 0, 1) := by decide +kernel
theorem dX12_begins_23 : decode cX12_begins 23 = .ok (.istore_n 2, 1) := by decide +kernel
theorem dX12_begins_24 : decode cX12_begins 24 = .ok (.iload_n 2, 1) := by decide +kernel
theorem dX12_begins_25 : decode cX12_begins 25 = .ok (.aload_n 0, 1) := by decide +kernel
theorem dX12_begins_26 : decode cX12_begins 26 = .ok (.getfield 520, 3) := by decide +kernel
theorem dX12_begins_29 : decode cX12_begins 29 = .ok (.if_icmp .ge 20, 3) := by decide +kernel
theorem dX12_begins_32 : decode cX12_begins 32 = .ok (.aload_n 0, 1) := by decide +kernel
theorem dX12_begins_33 : decode cX12_begins 33 = .ok (.getfield 100, 3) := by decide +kernel
theorem dX12_begins_36 : decode cX12_begins 36 = .ok (.iload_n 2, 1) := by decide +kernel
theorem dX12_begins_37 : decode cX12_begins 37 = .ok (.aload_n 0, 1) := by decide +kernel
theorem dX12_begins_38 : decode cX12_begins 38 = .ok (.iconst (-1), 1) := by decide +kernel
theorem dX12_begins_39 : decode cX12_begins 39 = .ok (.invokevirtual 523, 3) := by decide +kernel
theorem dX12_begins_42 : decode cX12_begins 42 = .ok (.iastore, 1) := by decide +kernel
theorem dX12_begins_43 : decode cX12_begins 43 = .ok (.iinc 2 1, 3) := by decide +kernel
theorem dX12_begins_46 : decode cX12_begins 46 = .ok (.goto (-22), 3) := by decide +kernel
theorem dX12_begins_49 : decode cX12_begins 49 = .ok (.return_, 1) := by decide +kernel
abbrev rmX12_begins : Room := { frames := 1, cells := 0, slots := 0, locals := 24 }
noncomputable def fLX12_begins_24 (x0 : Nat) (a : Int32 × St) : Option ((Int32 × St) ⊕ (St)) :=
(gI a.2 x0 11 55).bind fun v26 =>
if v26 ≤ a.1 then
(some (Sum.inr a.2))
else
((gR a.2 x0 11 54).bind fun v33 =>
(isO a.2 x0 11).bind fun _ =>
(fX12_draws a.2 x0 (-1)).bind fun w39 =>
(sI w39.2 v33 a.1 w39.1).bind fun σ42 =>
xlet (a.1 + 1) fun v43 =>
some (Sum.inl (v43, σ42)))
set_option maxHeartbeats 4000000 in
set_option maxRecDepth 100000 in
theorem lpX12_begins_24 {X : xX} {x0 : Nat}  {a0 : Int32 × St} {b : St} (C : Ok X cX12_begins 3 RX12 rmX12_begins none) (hb : iterP (fLX12_begins_24 x0) a0 = some b) (hy0 : ∀ s, b = s → V X (0, 0) s 49 [] []) : V X (0, 0) a0.2 24 [(0, .ref (x0)), (2, .int (a0.1))] [] := by
  obtain ⟨n, hn⟩ := iterP_some hb
  refine x_loop (P := fun a => V X (0, 0) a.2 24 [(0, .ref (x0)), (2, .int (a.1))] []) ?_ n a0 hn
  intro a c hf hK hxx
  have hx0 : ∀ s, c = Sum.inr s → V X (0, 0) s 49 [] [] := fun s e => hy0 s (hxx _ e).symm
  unfold fLX12_begins_24 at hf
  refine x_iload_n C dX12_begins_24 25 rfl 1 rfl rfl ?_
  refine x_aload_n C dX12_begins_25 26 rfl 0 rfl rfl ?_
  obtain ⟨v26, hv26, hf⟩ := x_bind hf
  refine x_getI C dX12_begins_26 29 rfl hv26 cl11 rfl w1498 ?_
  refine x_icmp_ge C dX12_begins_29 49 (by decide) 32 rfl (fun hc => ?_) (fun hc => ?_)
  · have hf := (if_pos hc).symm.trans hf
    refine x_lv [] (lv' := []) rfl ?_
    exact hx0 _ (Option.some.inj hf).symm
  · have hf := (if_neg hc).symm.trans hf
    refine x_aload_n C dX12_begins_32 33 rfl 0 rfl rfl ?_
    obtain ⟨v33, hv33, hf⟩ := x_bind hf
    refine x_getR C dX12_begins_33 36 rfl hv33 cl11 rfl w1497 ?_
    refine x_iload_n C dX12_begins_36 37 rfl 1 rfl rfl ?_
    refine x_aload_n C dX12_begins_37 38 rfl 0 rfl rfl ?_
    refine x_iconst C dX12_begins_38 39 rfl (-1) (by decide) ?_
    obtain ⟨o39, ho39, hf⟩ := x_bind hf
    obtain ⟨w39, hw39, hf⟩ := x_bind hf
    refine x_callVi C dX12_begins_39 42 rfl ho39 cl11.1 rfl (cX12_drawsc hw39) kX12_draws kvX12_draws w1992 ⟨rfl, rfl⟩ ⟨Nat.le_of_ble_eq_true rfl, Nat.le_of_ble_eq_true rfl⟩ ⟨Nat.zero_le _, Nat.zero_le _⟩ rfl rfl (Nat.le_of_ble_eq_true rfl) ?_
    obtain ⟨σ42, hσ42, hf⟩ := x_bind hf
    refine x_iastore C dX12_begins_42 43 rfl hσ42 ?_
    obtain ⟨v43, ev43, hf⟩ := xlet_some hf
    refine x_iinc C dX12_begins_43 46 rfl 1 rfl v43 ev43 rfl [(2, .int (v43)), (0, .ref (x0))] rfl ?_
    refine x_goto C dX12_begins_46 24 (by decide) ?_
    refine x_lv [1, 0] (lv' := [(0, .ref (x0)), (2, .int (v43))]) rfl ?_
    exact hK _ (Option.some.inj hf).symm
noncomputable def fX12_begins (σ : St) (x0 : Nat) (x1 : Int32) : Option (St) :=
(wrF σ x0 11 44 (.int (0))).bind fun σ2 =>
(gR σ2 x0 11 1).bind fun v7 =>
(fX12_place x1 1).bind fun w12 =>
(aL σ2 v7 w12).bind fun v15 =>
(fX12_length v15).bind fun w16 =>
(wrF σ2 x0 11 55 (.int (w16))).bind fun σ19 =>
(iterP (fLX12_begins_24 x0) (0, σ19)).bind fun b24 =>
some b24
set_option maxHeartbeats 4000000 in
set_option maxRecDepth 100000 in
theorem cX12_beginsc {l : Launch} {G : xG} {A : Nat → Prop} {σ : St} {x0 : Nat} {x1 : Int32} {c : St} (hf : fX12_begins σ x0 x1 = some c) : Con l yX12_begins (xws yX12_begins cX12_begins 3 none) rmX12_begins [.ref (x0), .int (x1)] G A σ none c := by
  refine x_start rfl (Nat.le_of_ble_eq_true rfl) (fun X _ _ _ C hE0 => ?_)
  have hE : ∀ r, c = r → xE1 X none r := fun r e => e ▸ hE0
  show V X (0, 0) σ 0 [(0, .ref (x0)), (1, .int (x1))] []
  unfold fX12_begins at hf
  refine x_aload_n C dX12_begins_0 1 rfl 0 rfl rfl ?_
  refine x_iconst C dX12_begins_1 2 rfl 0 (by decide) ?_
  obtain ⟨σ2, hσ2, hf⟩ := x_bind hf
  refine x_putX C dX12_begins_2 5 rfl hσ2 cl11 rfl w1487 rfl rfl rfl ?_
  refine x_aload_n C dX12_begins_5 6 rfl 0 rfl rfl ?_
  refine x_aload_n C dX12_begins_6 7 rfl 0 rfl rfl ?_
  obtain ⟨v7, hv7, hf⟩ := x_bind hf
  refine x_getR C dX12_begins_7 10 rfl hv7 cl11 rfl w1444 ?_
  refine x_iload_n C dX12_begins_10 11 rfl 1 rfl rfl ?_
  refine x_iconst C dX12_begins_11 12 rfl 1 (by decide) ?_
  obtain ⟨w12, hw12, hf⟩ := x_bind hf
  refine x_callSi C dX12_begins_12 15 rfl (cX12_placec hw12) kX12_place ksX12_place w1849 ⟨rfl, rfl⟩ ⟨Nat.le_of_ble_eq_true rfl, Nat.le_of_ble_eq_true rfl⟩ ⟨Nat.zero_le _, Nat.zero_le _⟩ rfl rfl (Nat.le_of_ble_eq_true rfl) ?_
  obtain ⟨v15, hv15, hf⟩ := x_bind hf
  refine x_laload C dX12_begins_15 16 rfl hv15 ?_
  obtain ⟨w16, hw16, hf⟩ := x_bind hf
  refine x_callSi C dX12_begins_16 19 rfl (cX12_lengthc hw16) kX12_length ksX12_length w1728 ⟨rfl, rfl⟩ ⟨Nat.le_of_ble_eq_true rfl, Nat.le_of_ble_eq_true rfl⟩ ⟨Nat.zero_le _, Nat.zero_le _⟩ rfl rfl (Nat.le_of_ble_eq_true rfl) ?_
  obtain ⟨σ19, hσ19, hf⟩ := x_bind hf
  refine x_putX C dX12_begins_19 22 rfl hσ19 cl11 rfl w1498 rfl rfl rfl ?_
  refine x_iconst C dX12_begins_22 23 rfl 0 (by decide) ?_
  refine x_istore_n C dX12_begins_23 24 rfl rfl rfl [(2, .int (0)), (0, .ref (x0)), (1, .int (x1))] rfl ?_
  obtain ⟨b24, hb24, hf⟩ := x_bind hf
  refine x_lv [1, 0] (lv' := [(0, .ref (x0)), (2, .int (0))]) rfl ?_
  refine lpX12_begins_24 C hb24 (fun s24 e24 => ?_)
  subst e24
  exact x_vret C (hE _ (Option.some.inj hf).symm) dX12_begins_49
theorem dX12_isThere_0 : decode cX12_isThere 0 = .ok (.iload_n 2, 1) := by decide +kernel
theorem dX12_isThere_1 : decode cX12_isThere 1 = .ok (.aload_n 0, 1) := by decide +kernel
theorem dX12_isThere_2 : decode cX12_isThere 2 = .ok (.getfield 76, 3) := by decide +kernel
theorem dX12_isThere_5 : decode cX12_isThere 5 = .ok (.iload_n 1, 1) := by decide +kernel
theorem dX12_isThere_6 : decode cX12_isThere 6 = .ok (.iaload, 1) := by decide +kernel
theorem dX12_isThere_7 : decode cX12_isThere 7 = .ok (.iadd, 1) := by decide +kernel
theorem dX12_isThere_8 : decode cX12_isThere 8 = .ok (.aload_n 0, 1) := by decide +kernel
theorem dX12_isThere_9 : decode cX12_isThere 9 = .ok (.getfield 520, 3) := by decide +kernel
theorem dX12_isThere_12 : decode cX12_isThere 12 = .ok (.if_icmp .le 5, 3) := by decide +kernel
theorem dX12_isThere_15 : decode cX12_isThere 15 = .ok (.iconst 0, 1) := by decide +kernel
theorem dX12_isThere_16 : decode cX12_isThere 16 = .ok (.ireturn, 1) := by decide +kernel
theorem dX12_isThere_17 : decode cX12_isThere 17 = .ok (.iconst 0, 1) := by decide +kernel
theorem dX12_isThere_18 : decode cX12_isThere 18 = .ok (.istore_n 3, 1) := by decide +kernel
theorem dX12_isThere_19 : decode cX12_isThere 19 = .ok (.iload_n 3, 1) := by decide +kernel
theorem dX12_isThere_20 : decode cX12_isThere 20 = .ok (.aload_n 0, 1) := by decide +kernel
theorem dX12_isThere_21 : decode cX12_isThere 21 = .ok (.getfield 76, 3) := by decide +kernel
theorem dX12_isThere_24 : decode cX12_isThere 24 = .ok (.iload_n 1, 1) := by decide +kernel
theorem dX12_isThere_25 : decode cX12_isThere 25 = .ok (.iaload, 1) := by decide +kernel
theorem dX12_isThere_26 : decode cX12_isThere 26 = .ok (.if_icmp .ge 33, 3) := by decide +kernel
theorem dX12_isThere_29 : decode cX12_isThere 29 = .ok (.aload_n 0, 1) := by decide +kernel
theorem dX12_isThere_30 : decode cX12_isThere 30 = .ok (.getfield 100, 3) := by decide +kernel
theorem dX12_isThere_33 : decode cX12_isThere 33 = .ok (.iload_n 2, 1) := by decide +kernel
theorem dX12_isThere_34 : decode cX12_isThere 34 = .ok (.iload_n 3, 1) := by decide +kernel
theorem dX12_isThere_35 : decode cX12_isThere 35 = .ok (.iadd, 1) := by decide +kernel
theorem dX12_isThere_36 : decode cX12_isThere 36 = .ok (.iaload, 1) := by decide +kernel
theorem dX12_isThere_37 : decode cX12_isThere 37 = .ok (.aload_n 0, 1) := by decide +kernel
theorem dX12_isThere_38 : decode cX12_isThere 38 = .ok (.getfield 73, 3) := by decide +kernel
theorem dX12_isThere_41 : decode cX12_isThere 41 = .ok (.bipush 16, 2) := by decide +kernel
theorem dX12_isThere_43 : decode cX12_isThere 43 = .ok (.iload_n 1, 1) := by decide +kernel
theorem dX12_isThere_44 : decode cX12_isThere 44 = .ok (.imul, 1) := by decide +kernel
theorem dX12_isThere_45 : decode cX12_isThere 45 = .ok (.iload_n 3, 1) := by decide +kernel
theorem dX12_isThere_46 : decode cX12_isThere 46 = .ok (.iadd, 1) := by decide +kernel
theorem dX12_isThere_47 : decode cX12_isThere 47 = .ok (.iaload, 1) := by decide +kernel
theorem dX12_isThere_48 : decode cX12_isThere 48 = .ok (.if_icmp .eq 5, 3) := by decide +kernel
theorem dX12_isThere_51 : decode cX12_isThere 51 = .ok (.iconst 0, 1) := by decide +kernel
theorem dX12_isThere_52 : decode cX12_isThere 52 = .ok (.ireturn, 1) := by decide +kernel
theorem dX12_isThere_53 : decode cX12_isThere 53 = .ok (.iinc 3 1, 3) := by decide +kernel
theorem dX12_isThere_56 : decode cX12_isThere 56 = .ok (.goto (-37), 3) := by decide +kernel
theorem dX12_isThere_59 : decode cX12_isThere 59 = .ok (.iconst 1, 1) := by decide +kernel
theorem dX12_isThere_60 : decode cX12_isThere 60 = .ok (.ireturn, 1) := by decide +kernel
abbrev rmX12_isThere : Room := { frames := 0, cells := 0, slots := 0, locals := 0 }
noncomputable def fLX12_isThere_19 (σ : St) (x0 : Nat) (x1 : Int32) (x2 : Int32) (a : Int32) : Option ((Int32) ⊕ ((Unit) ⊕ (Unit))) :=
(gR σ x0 11 46).bind fun v21 =>
(aI σ v21 0 x1).bind fun v25 =>
if v25 ≤ a then
(some (Sum.inr (Sum.inr ())))
else
((gR σ x0 11 54).bind fun v30 =>
(aI σ v30 0 (x2 + a)).bind fun v36 =>
(gR σ x0 11 45).bind fun v38 =>
(aI σ v38 0 ((16 * x1) + a)).bind fun v47 =>
if v36 = v47 then
(xlet (a + 1) fun v53 =>
some (Sum.inl v53))
else
(some (Sum.inr (Sum.inl ()))))
set_option maxHeartbeats 4000000 in
set_option maxRecDepth 100000 in
theorem lpX12_isThere_19 {X : xX} {σ : St} {x0 : Nat} {x1 : Int32} {x2 : Int32}  {a0 : Int32} {b : (Unit) ⊕ (Unit)} (C : Ok X cX12_isThere 4 RX12 rmX12_isThere (some .boolean)) (hb : iterP (fLX12_isThere_19 σ x0 x1 x2) a0 = some b) (hy0 : ∀ s, b = (Sum.inl s) → V X (0, 0) σ 51 [] []) (hy1 : ∀ s, b = (Sum.inr s) → V X (0, 0) σ 59 [] []) : V X (0, 0) σ 19 [(0, .ref (x0)), (1, .int (x1)), (2, .int (x2)), (3, .int (a0))] [] := by
  obtain ⟨n, hn⟩ := iterP_some hb
  refine x_loop (P := fun a => V X (0, 0) σ 19 [(0, .ref (x0)), (1, .int (x1)), (2, .int (x2)), (3, .int (a))] []) ?_ n a0 hn
  intro a c hf hK hxx
  have hx0 : ∀ s, c = Sum.inr (Sum.inl s) → V X (0, 0) σ 51 [] [] := fun s e => hy0 s (hxx _ e).symm
  have hx1 : ∀ s, c = Sum.inr (Sum.inr s) → V X (0, 0) σ 59 [] [] := fun s e => hy1 s (hxx _ e).symm
  unfold fLX12_isThere_19 at hf
  refine x_iload_n C dX12_isThere_19 20 rfl 3 rfl rfl ?_
  refine x_aload_n C dX12_isThere_20 21 rfl 0 rfl rfl ?_
  obtain ⟨v21, hv21, hf⟩ := x_bind hf
  refine x_getR C dX12_isThere_21 24 rfl hv21 cl11 rfl w1489 ?_
  refine x_iload_n C dX12_isThere_24 25 rfl 1 rfl rfl ?_
  obtain ⟨v25, hv25, hf⟩ := x_bind hf
  refine x_iaload C dX12_isThere_25 26 rfl hv25 ?_
  refine x_icmp_ge C dX12_isThere_26 59 (by decide) 29 rfl (fun hc => ?_) (fun hc => ?_)
  · have hf := (if_pos hc).symm.trans hf
    refine x_lv [] (lv' := []) rfl ?_
    exact hx1 _ (Option.some.inj hf).symm
  · have hf := (if_neg hc).symm.trans hf
    refine x_aload_n C dX12_isThere_29 30 rfl 0 rfl rfl ?_
    obtain ⟨v30, hv30, hf⟩ := x_bind hf
    refine x_getR C dX12_isThere_30 33 rfl hv30 cl11 rfl w1497 ?_
    refine x_iload_n C dX12_isThere_33 34 rfl 2 rfl rfl ?_
    refine x_iload_n C dX12_isThere_34 35 rfl 3 rfl rfl ?_
    refine x_iadd C dX12_isThere_35 36 rfl ?_
    obtain ⟨v36, hv36, hf⟩ := x_bind hf
    refine x_iaload C dX12_isThere_36 37 rfl hv36 ?_
    refine x_aload_n C dX12_isThere_37 38 rfl 0 rfl rfl ?_
    obtain ⟨v38, hv38, hf⟩ := x_bind hf
    refine x_getR C dX12_isThere_38 41 rfl hv38 cl11 rfl w1488 ?_
    refine x_bipush C dX12_isThere_41 43 rfl 16 (by decide) ?_
    refine x_iload_n C dX12_isThere_43 44 rfl 1 rfl rfl ?_
    refine x_imul C dX12_isThere_44 45 rfl ?_
    refine x_iload_n C dX12_isThere_45 46 rfl 3 rfl rfl ?_
    refine x_iadd C dX12_isThere_46 47 rfl ?_
    obtain ⟨v47, hv47, hf⟩ := x_bind hf
    refine x_iaload C dX12_isThere_47 48 rfl hv47 ?_
    refine x_icmp_eq C dX12_isThere_48 53 (by decide) 51 rfl (fun hc => ?_) (fun hc => ?_)
    · have hf := (if_pos hc).symm.trans hf
      obtain ⟨v53, ev53, hf⟩ := xlet_some hf
      refine x_iinc C dX12_isThere_53 56 rfl 3 rfl v53 ev53 rfl [(3, .int (v53)), (0, .ref (x0)), (1, .int (x1)), (2, .int (x2))] rfl ?_
      refine x_goto C dX12_isThere_56 19 (by decide) ?_
      refine x_lv [1, 2, 3, 0] (lv' := [(0, .ref (x0)), (1, .int (x1)), (2, .int (x2)), (3, .int (v53))]) rfl ?_
      exact hK _ (Option.some.inj hf).symm
    · have hf := (if_neg hc).symm.trans hf
      refine x_lv [] (lv' := []) rfl ?_
      exact hx0 _ (Option.some.inj hf).symm
noncomputable def fX12_isThere (σ : St) (x0 : Nat) (x1 : Int32) (x2 : Int32) : Option (Int32) :=
(gR σ x0 11 46).bind fun v2 =>
(aI σ v2 0 x1).bind fun v6 =>
(gI σ x0 11 55).bind fun v9 =>
if (x2 + v6) ≤ v9 then
((iterP (fLX12_isThere_19 σ x0 x1 x2) 0).bind fun b19 =>
(match b19 with
| .inl s19 =>
some 0
| .inr s19 =>
some 1))
else
(some 0)
set_option maxHeartbeats 4000000 in
set_option maxRecDepth 100000 in
theorem cX12_isTherec {l : Launch} {G : xG} {A : Nat → Prop} {σ : St} {x0 : Nat} {x1 : Int32} {x2 : Int32} {c : Int32} (hf : fX12_isThere σ x0 x1 x2 = some c) : Con l yX12_isThere (xws yX12_isThere cX12_isThere 4 (some .boolean)) rmX12_isThere [.ref (x0), .int (x1), .int (x2)] G A σ (some (.int c)) σ := by
  refine x_start rfl (Nat.le_of_ble_eq_true rfl) (fun X _ _ _ C hE0 => ?_)
  have hE : ∀ r, c = r → xE1 X (some (.int r)) σ := fun r e => e ▸ hE0
  show V X (0, 0) σ 0 [(0, .ref (x0)), (1, .int (x1)), (2, .int (x2))] []
  unfold fX12_isThere at hf
  refine x_iload_n C dX12_isThere_0 1 rfl 2 rfl rfl ?_
  refine x_aload_n C dX12_isThere_1 2 rfl 0 rfl rfl ?_
  obtain ⟨v2, hv2, hf⟩ := x_bind hf
  refine x_getR C dX12_isThere_2 5 rfl hv2 cl11 rfl w1489 ?_
  refine x_iload_n C dX12_isThere_5 6 rfl 1 rfl rfl ?_
  obtain ⟨v6, hv6, hf⟩ := x_bind hf
  refine x_iaload C dX12_isThere_6 7 rfl hv6 ?_
  refine x_iadd C dX12_isThere_7 8 rfl ?_
  refine x_aload_n C dX12_isThere_8 9 rfl 0 rfl rfl ?_
  obtain ⟨v9, hv9, hf⟩ := x_bind hf
  refine x_getI C dX12_isThere_9 12 rfl hv9 cl11 rfl w1498 ?_
  refine x_icmp_le C dX12_isThere_12 17 (by decide) 15 rfl (fun hc => ?_) (fun hc => ?_)
  · have hf := (if_pos hc).symm.trans hf
    refine x_iconst C dX12_isThere_17 18 rfl 0 (by decide) ?_
    refine x_istore_n C dX12_isThere_18 19 rfl rfl rfl [(3, .int (0)), (0, .ref (x0)), (1, .int (x1)), (2, .int (x2))] rfl ?_
    obtain ⟨b19, hb19, hf⟩ := x_bind hf
    refine x_lv [1, 2, 3, 0] (lv' := [(0, .ref (x0)), (1, .int (x1)), (2, .int (x2)), (3, .int (0))]) rfl ?_
    refine lpX12_isThere_19 C hb19 (fun s19 e19 => ?_) (fun s19 e19 => ?_)
    · subst e19
      try dsimp only at hf
      refine x_iconst C dX12_isThere_51 52 rfl 0 (by decide) ?_
      exact x_zret C rfl (hE _ (Option.some.inj hf).symm) dX12_isThere_52
    · subst e19
      try dsimp only at hf
      refine x_iconst C dX12_isThere_59 60 rfl 1 (by decide) ?_
      exact x_zret C rfl (hE _ (Option.some.inj hf).symm) dX12_isThere_60
  · have hf := (if_neg hc).symm.trans hf
    refine x_iconst C dX12_isThere_15 16 rfl 0 (by decide) ?_
    exact x_zret C rfl (hE _ (Option.some.inj hf).symm) dX12_isThere_16
theorem dX12_replaces_0 : decode cX12_replaces 0 = .ok (.aload_n 0, 1) := by decide +kernel
theorem dX12_replaces_1 : decode cX12_replaces 1 = .ok (.getfield 82, 3) := by decide +kernel
theorem dX12_replaces_4 : decode cX12_replaces 4 = .ok (.iload_n 2, 1) := by decide +kernel
theorem dX12_replaces_5 : decode cX12_replaces 5 = .ok (.iaload, 1) := by decide +kernel
theorem dX12_replaces_6 : decode cX12_replaces 6 = .ok (.aload_n 0, 1) := by decide +kernel
theorem dX12_replaces_7 : decode cX12_replaces 7 = .ok (.getfield 76, 3) := by decide +kernel
theorem dX12_replaces_10 : decode cX12_replaces 10 = .ok (.iload_n 2, 1) := by decide +kernel
theorem dX12_replaces_11 : decode cX12_replaces 11 = .ok (.iaload, 1) := by decide +kernel
theorem dX12_replaces_12 : decode cX12_replaces 12 = .ok (.isub, 1) := by decide +kernel
theorem dX12_replaces_13 : decode cX12_replaces 13 = .ok (.istore_n 3, 1) := by decide +kernel
theorem dX12_replaces_14 : decode cX12_replaces 14 = .ok (.iload_n 3, 1) := by decide +kernel
theorem dX12_replaces_15 : decode cX12_replaces 15 = .ok (.ifCond .le 49, 3) := by decide +kernel
theorem dX12_replaces_18 : decode cX12_replaces 18 = .ok (.aload_n 0, 1) := by decide +kernel
theorem dX12_replaces_19 : decode cX12_replaces 19 = .ok (.getfield 520, 3) := by decide +kernel
theorem dX12_replaces_22 : decode cX12_replaces 22 = .ok (.iconst 1, 1) := by decide +kernel
theorem dX12_replaces_23 : decode cX12_replaces 23 = .ok (.isub, 1) := by decide +kernel
theorem dX12_replaces_24 : decode cX12_replaces 24 = .ok (.istore 4, 2) := by decide +kernel
theorem dX12_replaces_26 : decode cX12_replaces 26 = .ok (.iload 4, 2) := by decide +kernel
theorem dX12_replaces_28 : decode cX12_replaces 28 = .ok (.iload_n 1, 1) := by decide +kernel
theorem dX12_replaces_29 : decode cX12_replaces 29 = .ok (.aload_n 0, 1) := by decide +kernel
theorem dX12_replaces_30 : decode cX12_replaces 30 = .ok (.getfield 76, 3) := by decide +kernel
theorem dX12_replaces_33 : decode cX12_replaces 33 = .ok (.iload_n 2, 1) := by decide +kernel
theorem dX12_replaces_34 : decode cX12_replaces 34 = .ok (.iaload, 1) := by decide +kernel
theorem dX12_replaces_35 : decode cX12_replaces 35 = .ok (.iadd, 1) := by decide +kernel
theorem dX12_replaces_36 : decode cX12_replaces 36 = .ok (.if_icmp .lt 25, 3) := by decide +kernel
theorem dX12_replaces_39 : decode cX12_replaces 39 = .ok (.aload_n 0, 1) := by decide +kernel
theorem dX12_replaces_40 : decode cX12_replaces 40 = .ok (.getfield 100, 3) := by decide +kernel
theorem dX12_replaces_43 : decode cX12_replaces 43 = .ok (.iload 4, 2) := by decide +kernel
theorem dX12_replaces_45 : decode cX12_replaces 45 = .ok (.iload_n 3, 1) := by decide +kernel
theorem dX12_replaces_46 : decode cX12_replaces 46 = .ok (.iadd, 1) := by decide +kernel
theorem dX12_replaces_47 : decode cX12_replaces 47 = .ok (.aload_n 0, 1) := by decide +kernel
theorem dX12_replaces_48 : decode cX12_replaces 48 = .ok (.getfield 100, 3) := by decide +kernel
theorem dX12_replaces_51 : decode cX12_replaces 51 = .ok (.iload 4, 2) := by decide +kernel
theorem dX12_replaces_53 : decode cX12_replaces 53 = .ok (.iaload, 1) := by decide +kernel
theorem dX12_replaces_54 : decode cX12_replaces 54 = .ok (.iastore, 1) := by decide +kernel
theorem dX12_replaces_55 : decode cX12_replaces 55 = .ok (.iinc 4 (-1), 3) := by decide +kernel
theorem dX12_replaces_58 : decode cX12_replaces 58 = .ok (.goto (-32), 3) := by decide +kernel
theorem dX12_replaces_61 : decode cX12_replaces 61 = .ok (.goto 44, 3) := by decide +kernel
theorem dX12_replaces_64 : decode cX12_replaces 64 = .ok (.iload_n 1, 1) := by decide +kernel
theorem dX12_replaces_65 : decode cX12_replaces 65 = .ok (.aload_n 0, 1) := by decide +kernel
theorem dX12_replaces_66 : decode cX12_replaces 66 = .ok (.getfield 76, 3) := by decide +kernel
theorem dX12_replaces_69 : decode cX12_replaces 69 = .ok (.iload_n 2, 1) := by decide +kernel
theorem dX12_replaces_70 : decode cX12_replaces 70 = .ok (.iaload, 1) := by decide +kernel
theorem dX12_replaces_71 : decode cX12_replaces 71 = .ok (.iadd, 1) := by decide +kernel
theorem dX12_replaces_72 : decode cX12_replaces 72 = .ok (.istore 4, 2) := by decide +kernel
theorem dX12_replaces_74 : decode cX12_replaces 74 = .ok (.iload 4, 2) := by decide +kernel
theorem dX12_replaces_76 : decode cX12_replaces 76 = .ok (.aload_n 0, 1) := by decide +kernel
theorem dX12_replaces_77 : decode cX12_replaces 77 = .ok (.getfield 520, 3) := by decide +kernel
theorem dX12_replaces_80 : decode cX12_replaces 80 = .ok (.if_icmp .ge 25, 3) := by decide +kernel
theorem dX12_replaces_83 : decode cX12_replaces 83 = .ok (.aload_n 0, 1) := by decide +kernel
theorem dX12_replaces_84 : decode cX12_replaces 84 = .ok (.getfield 100, 3) := by decide +kernel
theorem dX12_replaces_87 : decode cX12_replaces 87 = .ok (.iload 4, 2) := by decide +kernel
theorem dX12_replaces_89 : decode cX12_replaces 89 = .ok (.iload_n 3, 1) := by decide +kernel
theorem dX12_replaces_90 : decode cX12_replaces 90 = .ok (.iadd, 1) := by decide +kernel
theorem dX12_replaces_91 : decode cX12_replaces 91 = .ok (.aload_n 0, 1) := by decide +kernel
theorem dX12_replaces_92 : decode cX12_replaces 92 = .ok (.getfield 100, 3) := by decide +kernel
theorem dX12_replaces_95 : decode cX12_replaces 95 = .ok (.iload 4, 2) := by decide +kernel
theorem dX12_replaces_97 : decode cX12_replaces 97 = .ok (.iaload, 1) := by decide +kernel
theorem dX12_replaces_98 : decode cX12_replaces 98 = .ok (.iastore, 1) := by decide +kernel
theorem dX12_replaces_99 : decode cX12_replaces 99 = .ok (.iinc 4 1, 3) := by decide +kernel
theorem dX12_replaces_102 : decode cX12_replaces 102 = .ok (.goto (-28), 3) := by decide +kernel
theorem dX12_replaces_105 : decode cX12_replaces 105 = .ok (.aload_n 0, 1) := by decide +kernel
theorem dX12_replaces_106 : decode cX12_replaces 106 = .ok (.dup, 1) := by decide +kernel
theorem dX12_replaces_107 : decode cX12_replaces 107 = .ok (.getfield 520, 3) := by decide +kernel
theorem dX12_replaces_110 : decode cX12_replaces 110 = .ok (.iload_n 3, 1) := by decide +kernel
theorem dX12_replaces_111 : decode cX12_replaces 111 = .ok (.iadd, 1) := by decide +kernel
theorem dX12_replaces_112 : decode cX12_replaces 112 = .ok (.putfield 520, 3) := by decide +kernel
theorem dX12_replaces_115 : decode cX12_replaces 115 = .ok (.iconst 0, 1) := by decide +kernel
theorem dX12_replaces_116 : decode cX12_replaces 116 = .ok (.istore 4, 2) := by decide +kernel
theorem dX12_replaces_118 : decode cX12_replaces 118 = .ok (.iload 4, 2) := by decide +kernel
theorem dX12_replaces_120 : decode cX12_replaces 120 = .ok (.aload_n 0, 1) := by decide +kernel
theorem dX12_replaces_121 : decode cX12_replaces 121 = .ok (.getfield 82, 3) := by decide +kernel
theorem dX12_replaces_124 : decode cX12_replaces 124 = .ok (.iload_n 2, 1) := by decide +kernel
theorem dX12_replaces_125 : decode cX12_replaces 125 = .ok (.iaload, 1) := by decide +kernel
theorem dX12_replaces_126 : decode cX12_replaces 126 = .ok (.if_icmp .ge 27, 3) := by decide +kernel
theorem dX12_replaces_129 : decode cX12_replaces 129 = .ok (.aload_n 0, 1) := by decide +kernel
theorem dX12_replaces_130 : decode cX12_replaces 130 = .ok (.getfield 100, 3) := by decide +kernel
theorem dX12_replaces_133 : decode cX12_replaces 133 = .ok (.iload_n 1, 1) := by decide +kernel
theorem dX12_replaces_134 : decode cX12_replaces 134 = .ok (.iload 4, 2) := by decide +kernel
theorem dX12_replaces_136 : decode cX12_replaces 136 = .ok (.iadd, 1) := by decide +kernel
theorem dX12_replaces_137 : decode cX12_replaces 137 = .ok (.aload_n 0, 1) := by decide +kernel
theorem dX12_replaces_138 : decode cX12_replaces 138 = .ok (.getfield 79, 3) := by decide +kernel
theorem dX12_replaces_141 : decode cX12_replaces 141 = .ok (.iload_n 2, 1) := by decide +kernel
theorem dX12_replaces_142 : decode cX12_replaces 142 = .ok (.iaload, 1) := by decide +kernel
theorem dX12_replaces_143 : decode cX12_replaces 143 = .ok (.iload 4, 2) := by decide +kernel
theorem dX12_replaces_145 : decode cX12_replaces 145 = .ok (.iadd, 1) := by decide +kernel
theorem dX12_replaces_146 : decode cX12_replaces 146 = .ok (.iastore, 1) := by decide +kernel
theorem dX12_replaces_147 : decode cX12_replaces 147 = .ok (.iinc 4 1, 3) := by decide +kernel
theorem dX12_replaces_150 : decode cX12_replaces 150 = .ok (.goto (-32), 3) := by decide +kernel
theorem dX12_replaces_153 : decode cX12_replaces 153 = .ok (.return_, 1) := by decide +kernel
abbrev rmX12_replaces : Room := { frames := 0, cells := 0, slots := 0, locals := 0 }
noncomputable def fLX12_replaces_74 (x0 : Nat) (x1 : Int32) (x2 : Int32) (x3 : Int32) (a : Int32 × St) : Option ((Int32 × St) ⊕ (St)) :=
(gI a.2 x0 11 55).bind fun v77 =>
if v77 ≤ a.1 then
(some (Sum.inr a.2))
else
((gR a.2 x0 11 54).bind fun v84 =>
(gR a.2 x0 11 54).bind fun v92 =>
(aI a.2 v92 0 a.1).bind fun v97 =>
(sI a.2 v84 (a.1 + x3) v97).bind fun σ98 =>
xlet (a.1 + 1) fun v99 =>
some (Sum.inl (v99, σ98)))
set_option maxHeartbeats 4000000 in
set_option maxRecDepth 100000 in
theorem lpX12_replaces_74 {X : xX} {x0 : Nat} {x1 : Int32} {x2 : Int32} {x3 : Int32}  {a0 : Int32 × St} {b : St} (C : Ok X cX12_replaces 5 RX12 rmX12_replaces none) (hb : iterP (fLX12_replaces_74 x0 x1 x2 x3) a0 = some b) (hy0 : ∀ s, b = s → V X (0, 0) s 105 [(0, .ref (x0)), (1, .int (x1)), (2, .int (x2)), (3, .int (x3))] []) : V X (0, 0) a0.2 74 [(0, .ref (x0)), (1, .int (x1)), (2, .int (x2)), (3, .int (x3)), (4, .int (a0.1))] [] := by
  obtain ⟨n, hn⟩ := iterP_some hb
  refine x_loop (P := fun a => V X (0, 0) a.2 74 [(0, .ref (x0)), (1, .int (x1)), (2, .int (x2)), (3, .int (x3)), (4, .int (a.1))] []) ?_ n a0 hn
  intro a c hf hK hxx
  have hx0 : ∀ s, c = Sum.inr s → V X (0, 0) s 105 [(0, .ref (x0)), (1, .int (x1)), (2, .int (x2)), (3, .int (x3))] [] := fun s e => hy0 s (hxx _ e).symm
  unfold fLX12_replaces_74 at hf
  refine x_iload C dX12_replaces_74 76 rfl 4 rfl ?_
  refine x_aload_n C dX12_replaces_76 77 rfl 0 rfl rfl ?_
  obtain ⟨v77, hv77, hf⟩ := x_bind hf
  refine x_getI C dX12_replaces_77 80 rfl hv77 cl11 rfl w1498 ?_
  refine x_icmp_ge C dX12_replaces_80 105 (by decide) 83 rfl (fun hc => ?_) (fun hc => ?_)
  · have hf := (if_pos hc).symm.trans hf
    refine x_lv [0, 1, 2, 3] (lv' := [(0, .ref (x0)), (1, .int (x1)), (2, .int (x2)), (3, .int (x3))]) rfl ?_
    exact hx0 _ (Option.some.inj hf).symm
  · have hf := (if_neg hc).symm.trans hf
    refine x_aload_n C dX12_replaces_83 84 rfl 0 rfl rfl ?_
    obtain ⟨v84, hv84, hf⟩ := x_bind hf
    refine x_getR C dX12_replaces_84 87 rfl hv84 cl11 rfl w1497 ?_
    refine x_iload C dX12_replaces_87 89 rfl 4 rfl ?_
    refine x_iload_n C dX12_replaces_89 90 rfl 3 rfl rfl ?_
    refine x_iadd C dX12_replaces_90 91 rfl ?_
    refine x_aload_n C dX12_replaces_91 92 rfl 0 rfl rfl ?_
    obtain ⟨v92, hv92, hf⟩ := x_bind hf
    refine x_getR C dX12_replaces_92 95 rfl hv92 cl11 rfl w1497 ?_
    refine x_iload C dX12_replaces_95 97 rfl 4 rfl ?_
    obtain ⟨v97, hv97, hf⟩ := x_bind hf
    refine x_iaload C dX12_replaces_97 98 rfl hv97 ?_
    obtain ⟨σ98, hσ98, hf⟩ := x_bind hf
    refine x_iastore C dX12_replaces_98 99 rfl hσ98 ?_
    obtain ⟨v99, ev99, hf⟩ := xlet_some hf
    refine x_iinc C dX12_replaces_99 102 rfl 4 rfl v99 ev99 rfl [(4, .int (v99)), (0, .ref (x0)), (1, .int (x1)), (2, .int (x2)), (3, .int (x3))] rfl ?_
    refine x_goto C dX12_replaces_102 74 (by decide) ?_
    refine x_lv [1, 2, 3, 4, 0] (lv' := [(0, .ref (x0)), (1, .int (x1)), (2, .int (x2)), (3, .int (x3)), (4, .int (v99))]) rfl ?_
    exact hK _ (Option.some.inj hf).symm
noncomputable def fLX12_replaces_118 (x0 : Nat) (x1 : Int32) (x2 : Int32) (a : Int32 × St) : Option ((Int32 × St) ⊕ (St)) :=
(gR a.2 x0 11 48).bind fun v121 =>
(aI a.2 v121 0 x2).bind fun v125 =>
if v125 ≤ a.1 then
(some (Sum.inr a.2))
else
((gR a.2 x0 11 54).bind fun v130 =>
(gR a.2 x0 11 47).bind fun v138 =>
(aI a.2 v138 0 x2).bind fun v142 =>
(sI a.2 v130 (x1 + a.1) (v142 + a.1)).bind fun σ146 =>
xlet (a.1 + 1) fun v147 =>
some (Sum.inl (v147, σ146)))
set_option maxHeartbeats 4000000 in
set_option maxRecDepth 100000 in
theorem lpX12_replaces_118 {X : xX} {x0 : Nat} {x1 : Int32} {x2 : Int32}  {a0 : Int32 × St} {b : St} (C : Ok X cX12_replaces 5 RX12 rmX12_replaces none) (hb : iterP (fLX12_replaces_118 x0 x1 x2) a0 = some b) (hy0 : ∀ s, b = s → V X (0, 0) s 153 [] []) : V X (0, 0) a0.2 118 [(0, .ref (x0)), (1, .int (x1)), (2, .int (x2)), (4, .int (a0.1))] [] := by
  obtain ⟨n, hn⟩ := iterP_some hb
  refine x_loop (P := fun a => V X (0, 0) a.2 118 [(0, .ref (x0)), (1, .int (x1)), (2, .int (x2)), (4, .int (a.1))] []) ?_ n a0 hn
  intro a c hf hK hxx
  have hx0 : ∀ s, c = Sum.inr s → V X (0, 0) s 153 [] [] := fun s e => hy0 s (hxx _ e).symm
  unfold fLX12_replaces_118 at hf
  refine x_iload C dX12_replaces_118 120 rfl 3 rfl ?_
  refine x_aload_n C dX12_replaces_120 121 rfl 0 rfl rfl ?_
  obtain ⟨v121, hv121, hf⟩ := x_bind hf
  refine x_getR C dX12_replaces_121 124 rfl hv121 cl11 rfl w1491 ?_
  refine x_iload_n C dX12_replaces_124 125 rfl 2 rfl rfl ?_
  obtain ⟨v125, hv125, hf⟩ := x_bind hf
  refine x_iaload C dX12_replaces_125 126 rfl hv125 ?_
  refine x_icmp_ge C dX12_replaces_126 153 (by decide) 129 rfl (fun hc => ?_) (fun hc => ?_)
  · have hf := (if_pos hc).symm.trans hf
    refine x_lv [] (lv' := []) rfl ?_
    exact hx0 _ (Option.some.inj hf).symm
  · have hf := (if_neg hc).symm.trans hf
    refine x_aload_n C dX12_replaces_129 130 rfl 0 rfl rfl ?_
    obtain ⟨v130, hv130, hf⟩ := x_bind hf
    refine x_getR C dX12_replaces_130 133 rfl hv130 cl11 rfl w1497 ?_
    refine x_iload_n C dX12_replaces_133 134 rfl 1 rfl rfl ?_
    refine x_iload C dX12_replaces_134 136 rfl 3 rfl ?_
    refine x_iadd C dX12_replaces_136 137 rfl ?_
    refine x_aload_n C dX12_replaces_137 138 rfl 0 rfl rfl ?_
    obtain ⟨v138, hv138, hf⟩ := x_bind hf
    refine x_getR C dX12_replaces_138 141 rfl hv138 cl11 rfl w1490 ?_
    refine x_iload_n C dX12_replaces_141 142 rfl 2 rfl rfl ?_
    obtain ⟨v142, hv142, hf⟩ := x_bind hf
    refine x_iaload C dX12_replaces_142 143 rfl hv142 ?_
    refine x_iload C dX12_replaces_143 145 rfl 3 rfl ?_
    refine x_iadd C dX12_replaces_145 146 rfl ?_
    obtain ⟨σ146, hσ146, hf⟩ := x_bind hf
    refine x_iastore C dX12_replaces_146 147 rfl hσ146 ?_
    obtain ⟨v147, ev147, hf⟩ := xlet_some hf
    refine x_iinc C dX12_replaces_147 150 rfl 3 rfl v147 ev147 rfl [(4, .int (v147)), (0, .ref (x0)), (1, .int (x1)), (2, .int (x2))] rfl ?_
    refine x_goto C dX12_replaces_150 118 (by decide) ?_
    refine x_lv [1, 2, 3, 0] (lv' := [(0, .ref (x0)), (1, .int (x1)), (2, .int (x2)), (4, .int (v147))]) rfl ?_
    exact hK _ (Option.some.inj hf).symm
noncomputable def fJX12_replaces_m_105 (σ : St) (x0 : Nat) (x1 : Int32) (x2 : Int32) (x3 : Int32)  : Option (St) :=
(gI σ x0 11 55).bind fun v107 =>
(wrF σ x0 11 55 (.int (v107 + x3))).bind fun σ112 =>
(iterP (fLX12_replaces_118 x0 x1 x2) (0, σ112)).bind fun b118 =>
some b118
set_option maxHeartbeats 4000000 in
set_option maxRecDepth 100000 in
theorem jnX12_replaces_m_105 {X : xX} {σ : St} {x0 : Nat} {x1 : Int32} {x2 : Int32} {x3 : Int32}   {c : St} (C : Ok X cX12_replaces 5 RX12 rmX12_replaces none) (hf : fJX12_replaces_m_105 σ x0 x1 x2 x3  = some c) (hE : ∀ r, c = r → xE1 X none r) : V X (0, 0) σ 105 [(0, .ref (x0)), (1, .int (x1)), (2, .int (x2)), (3, .int (x3))] [] := by
  unfold fJX12_replaces_m_105 at hf
  refine x_aload_n C dX12_replaces_105 106 rfl 0 rfl rfl ?_
  refine x_dup C dX12_replaces_106 107 rfl rfl ?_
  obtain ⟨v107, hv107, hf⟩ := x_bind hf
  refine x_getI C dX12_replaces_107 110 rfl hv107 cl11 rfl w1498 ?_
  refine x_iload_n C dX12_replaces_110 111 rfl 3 rfl rfl ?_
  refine x_iadd C dX12_replaces_111 112 rfl ?_
  obtain ⟨σ112, hσ112, hf⟩ := x_bind hf
  refine x_putX C dX12_replaces_112 115 rfl hσ112 cl11 rfl w1498 rfl rfl rfl ?_
  refine x_iconst C dX12_replaces_115 116 rfl 0 (by decide) ?_
  refine x_istore C dX12_replaces_116 118 rfl rfl [(4, .int (0)), (0, .ref (x0)), (1, .int (x1)), (2, .int (x2)), (3, .int (x3))] rfl ?_
  obtain ⟨b118, hb118, hf⟩ := x_bind hf
  refine x_lv [1, 2, 3, 0] (lv' := [(0, .ref (x0)), (1, .int (x1)), (2, .int (x2)), (4, .int (0))]) rfl ?_
  refine lpX12_replaces_118 C hb118 (fun s118 e118 => ?_)
  subst e118
  exact x_vret C (hE _ (Option.some.inj hf).symm) dX12_replaces_153
noncomputable def fLX12_replaces_26 (x0 : Nat) (x1 : Int32) (x2 : Int32) (x3 : Int32) (a : Int32 × St) : Option ((Int32 × St) ⊕ (St)) :=
(gR a.2 x0 11 46).bind fun v30 =>
(aI a.2 v30 0 x2).bind fun v34 =>
if a.1 < (x1 + v34) then
(some (Sum.inr a.2))
else
((gR a.2 x0 11 54).bind fun v40 =>
(gR a.2 x0 11 54).bind fun v48 =>
(aI a.2 v48 0 a.1).bind fun v53 =>
(sI a.2 v40 (a.1 + x3) v53).bind fun σ54 =>
xlet (a.1 + (-1)) fun v55 =>
some (Sum.inl (v55, σ54)))
set_option maxHeartbeats 4000000 in
set_option maxRecDepth 100000 in
theorem lpX12_replaces_26 {X : xX} {x0 : Nat} {x1 : Int32} {x2 : Int32} {x3 : Int32}  {a0 : Int32 × St} {b : St} (C : Ok X cX12_replaces 5 RX12 rmX12_replaces none) (hb : iterP (fLX12_replaces_26 x0 x1 x2 x3) a0 = some b) (hy0 : ∀ s, b = s → V X (0, 0) s 61 [(0, .ref (x0)), (1, .int (x1)), (2, .int (x2)), (3, .int (x3))] []) : V X (0, 0) a0.2 26 [(0, .ref (x0)), (1, .int (x1)), (2, .int (x2)), (3, .int (x3)), (4, .int (a0.1))] [] := by
  obtain ⟨n, hn⟩ := iterP_some hb
  refine x_loop (P := fun a => V X (0, 0) a.2 26 [(0, .ref (x0)), (1, .int (x1)), (2, .int (x2)), (3, .int (x3)), (4, .int (a.1))] []) ?_ n a0 hn
  intro a c hf hK hxx
  have hx0 : ∀ s, c = Sum.inr s → V X (0, 0) s 61 [(0, .ref (x0)), (1, .int (x1)), (2, .int (x2)), (3, .int (x3))] [] := fun s e => hy0 s (hxx _ e).symm
  unfold fLX12_replaces_26 at hf
  refine x_iload C dX12_replaces_26 28 rfl 4 rfl ?_
  refine x_iload_n C dX12_replaces_28 29 rfl 1 rfl rfl ?_
  refine x_aload_n C dX12_replaces_29 30 rfl 0 rfl rfl ?_
  obtain ⟨v30, hv30, hf⟩ := x_bind hf
  refine x_getR C dX12_replaces_30 33 rfl hv30 cl11 rfl w1489 ?_
  refine x_iload_n C dX12_replaces_33 34 rfl 2 rfl rfl ?_
  obtain ⟨v34, hv34, hf⟩ := x_bind hf
  refine x_iaload C dX12_replaces_34 35 rfl hv34 ?_
  refine x_iadd C dX12_replaces_35 36 rfl ?_
  refine x_icmp_lt C dX12_replaces_36 61 (by decide) 39 rfl (fun hc => ?_) (fun hc => ?_)
  · have hf := (if_pos hc).symm.trans hf
    refine x_lv [0, 1, 2, 3] (lv' := [(0, .ref (x0)), (1, .int (x1)), (2, .int (x2)), (3, .int (x3))]) rfl ?_
    exact hx0 _ (Option.some.inj hf).symm
  · have hf := (if_neg hc).symm.trans hf
    refine x_aload_n C dX12_replaces_39 40 rfl 0 rfl rfl ?_
    obtain ⟨v40, hv40, hf⟩ := x_bind hf
    refine x_getR C dX12_replaces_40 43 rfl hv40 cl11 rfl w1497 ?_
    refine x_iload C dX12_replaces_43 45 rfl 4 rfl ?_
    refine x_iload_n C dX12_replaces_45 46 rfl 3 rfl rfl ?_
    refine x_iadd C dX12_replaces_46 47 rfl ?_
    refine x_aload_n C dX12_replaces_47 48 rfl 0 rfl rfl ?_
    obtain ⟨v48, hv48, hf⟩ := x_bind hf
    refine x_getR C dX12_replaces_48 51 rfl hv48 cl11 rfl w1497 ?_
    refine x_iload C dX12_replaces_51 53 rfl 4 rfl ?_
    obtain ⟨v53, hv53, hf⟩ := x_bind hf
    refine x_iaload C dX12_replaces_53 54 rfl hv53 ?_
    obtain ⟨σ54, hσ54, hf⟩ := x_bind hf
    refine x_iastore C dX12_replaces_54 55 rfl hσ54 ?_
    obtain ⟨v55, ev55, hf⟩ := xlet_some hf
    refine x_iinc C dX12_replaces_55 58 rfl 4 rfl v55 ev55 rfl [(4, .int (v55)), (0, .ref (x0)), (1, .int (x1)), (2, .int (x2)), (3, .int (x3))] rfl ?_
    refine x_goto C dX12_replaces_58 26 (by decide) ?_
    refine x_lv [1, 2, 3, 4, 0] (lv' := [(0, .ref (x0)), (1, .int (x1)), (2, .int (x2)), (3, .int (x3)), (4, .int (v55))]) rfl ?_
    exact hK _ (Option.some.inj hf).symm
noncomputable def fX12_replaces (σ : St) (x0 : Nat) (x1 : Int32) (x2 : Int32) : Option (St) :=
(gR σ x0 11 48).bind fun v1 =>
(aI σ v1 0 x2).bind fun v5 =>
(gR σ x0 11 46).bind fun v7 =>
(aI σ v7 0 x2).bind fun v11 =>
xlet (v5 - v11) fun v13 =>
if v13 ≤ 0 then
((gR σ x0 11 46).bind fun v66 =>
(aI σ v66 0 x2).bind fun v70 =>
xlet (x1 + v70) fun v72 =>
(iterP (fLX12_replaces_74 x0 x1 x2 v13) (v72, σ)).bind fun b74 =>
fJX12_replaces_m_105 b74 x0 x1 x2 v13)
else
((gI σ x0 11 55).bind fun v19 =>
xlet (v19 - 1) fun v24 =>
(iterP (fLX12_replaces_26 x0 x1 x2 v13) (v24, σ)).bind fun b26 =>
fJX12_replaces_m_105 b26 x0 x1 x2 v13)
set_option maxHeartbeats 4000000 in
set_option maxRecDepth 100000 in
theorem cX12_replacesc {l : Launch} {G : xG} {A : Nat → Prop} {σ : St} {x0 : Nat} {x1 : Int32} {x2 : Int32} {c : St} (hf : fX12_replaces σ x0 x1 x2 = some c) : Con l yX12_replaces (xws yX12_replaces cX12_replaces 5 none) rmX12_replaces [.ref (x0), .int (x1), .int (x2)] G A σ none c := by
  refine x_start rfl (Nat.le_of_ble_eq_true rfl) (fun X _ _ _ C hE0 => ?_)
  have hE : ∀ r, c = r → xE1 X none r := fun r e => e ▸ hE0
  show V X (0, 0) σ 0 [(0, .ref (x0)), (1, .int (x1)), (2, .int (x2))] []
  unfold fX12_replaces at hf
  refine x_aload_n C dX12_replaces_0 1 rfl 0 rfl rfl ?_
  obtain ⟨v1, hv1, hf⟩ := x_bind hf
  refine x_getR C dX12_replaces_1 4 rfl hv1 cl11 rfl w1491 ?_
  refine x_iload_n C dX12_replaces_4 5 rfl 2 rfl rfl ?_
  obtain ⟨v5, hv5, hf⟩ := x_bind hf
  refine x_iaload C dX12_replaces_5 6 rfl hv5 ?_
  refine x_aload_n C dX12_replaces_6 7 rfl 0 rfl rfl ?_
  obtain ⟨v7, hv7, hf⟩ := x_bind hf
  refine x_getR C dX12_replaces_7 10 rfl hv7 cl11 rfl w1489 ?_
  refine x_iload_n C dX12_replaces_10 11 rfl 2 rfl rfl ?_
  obtain ⟨v11, hv11, hf⟩ := x_bind hf
  refine x_iaload C dX12_replaces_11 12 rfl hv11 ?_
  refine x_isub C dX12_replaces_12 13 rfl ?_
  obtain ⟨v13, ev13, hf⟩ := xlet_some hf
  refine x_topi ev13 ?_
  refine x_istore_n C dX12_replaces_13 14 rfl rfl rfl [(3, .int (v13)), (0, .ref (x0)), (1, .int (x1)), (2, .int (x2))] rfl ?_
  refine x_iload_n C dX12_replaces_14 15 rfl 0 rfl rfl ?_
  refine x_if_le C dX12_replaces_15 64 (by decide) 18 rfl (fun hc => ?_) (fun hc => ?_)
  · have hf := (if_pos hc).symm.trans hf
    refine x_iload_n C dX12_replaces_64 65 rfl 2 rfl rfl ?_
    refine x_aload_n C dX12_replaces_65 66 rfl 1 rfl rfl ?_
    obtain ⟨v66, hv66, hf⟩ := x_bind hf
    refine x_getR C dX12_replaces_66 69 rfl hv66 cl11 rfl w1489 ?_
    refine x_iload_n C dX12_replaces_69 70 rfl 3 rfl rfl ?_
    obtain ⟨v70, hv70, hf⟩ := x_bind hf
    refine x_iaload C dX12_replaces_70 71 rfl hv70 ?_
    refine x_iadd C dX12_replaces_71 72 rfl ?_
    obtain ⟨v72, ev72, hf⟩ := xlet_some hf
    refine x_topi ev72 ?_
    refine x_istore C dX12_replaces_72 74 rfl rfl [(4, .int (v72)), (3, .int (v13)), (0, .ref (x0)), (1, .int (x1)), (2, .int (x2))] rfl ?_
    obtain ⟨b74, hb74, hf⟩ := x_bind hf
    refine x_lv [2, 3, 4, 1, 0] (lv' := [(0, .ref (x0)), (1, .int (x1)), (2, .int (x2)), (3, .int (v13)), (4, .int (v72))]) rfl ?_
    refine lpX12_replaces_74 C hb74 (fun s74 e74 => ?_)
    subst e74
    exact jnX12_replaces_m_105 C hf hE
  · have hf := (if_neg hc).symm.trans hf
    refine x_aload_n C dX12_replaces_18 19 rfl 1 rfl rfl ?_
    obtain ⟨v19, hv19, hf⟩ := x_bind hf
    refine x_getI C dX12_replaces_19 22 rfl hv19 cl11 rfl w1498 ?_
    refine x_iconst C dX12_replaces_22 23 rfl 1 (by decide) ?_
    refine x_isub C dX12_replaces_23 24 rfl ?_
    obtain ⟨v24, ev24, hf⟩ := xlet_some hf
    refine x_topi ev24 ?_
    refine x_istore C dX12_replaces_24 26 rfl rfl [(4, .int (v24)), (3, .int (v13)), (0, .ref (x0)), (1, .int (x1)), (2, .int (x2))] rfl ?_
    obtain ⟨b26, hb26, hf⟩ := x_bind hf
    refine x_lv [2, 3, 4, 1, 0] (lv' := [(0, .ref (x0)), (1, .int (x1)), (2, .int (x2)), (3, .int (v13)), (4, .int (v24))]) rfl ?_
    refine lpX12_replaces_26 C hb26 (fun s26 e26 => ?_)
    subst e26
    refine x_goto C dX12_replaces_61 105 (by decide) ?_
    exact jnX12_replaces_m_105 C hf hE
theorem dX12_laysCanon_0 : decode cX12_laysCanon 0 = .ok (.iconst 0, 1) := by decide +kernel
theorem dX12_laysCanon_1 : decode cX12_laysCanon 1 = .ok (.istore_n 2, 1) := by decide +kernel
theorem dX12_laysCanon_2 : decode cX12_laysCanon 2 = .ok (.iload_n 2, 1) := by decide +kernel
theorem dX12_laysCanon_3 : decode cX12_laysCanon 3 = .ok (.iload_n 1, 1) := by decide +kernel
theorem dX12_laysCanon_4 : decode cX12_laysCanon 4 = .ok (.if_icmp .ge 94, 3) := by decide +kernel
theorem dX12_laysCanon_7 : decode cX12_laysCanon 7 = .ok (.iconst 0, 1) := by decide +kernel
theorem dX12_laysCanon_8 : decode cX12_laysCanon 8 = .ok (.istore_n 3, 1) := by decide +kernel
theorem dX12_laysCanon_9 : decode cX12_laysCanon 9 = .ok (.aload_n 0, 1) := by decide +kernel
theorem dX12_laysCanon_10 : decode cX12_laysCanon 10 = .ok (.getfield 70, 3) := by decide +kernel
theorem dX12_laysCanon_13 : decode cX12_laysCanon 13 = .ok (.aload_n 0, 1) := by decide +kernel
theorem dX12_laysCanon_14 : decode cX12_laysCanon 14 = .ok (.getfield 100, 3) := by decide +kernel
theorem dX12_laysCanon_17 : decode cX12_laysCanon 17 = .ok (.iload_n 3, 1) := by decide +kernel
theorem dX12_laysCanon_18 : decode cX12_laysCanon 18 = .ok (.iaload, 1) := by decide +kernel
theorem dX12_laysCanon_19 : decode cX12_laysCanon 19 = .ok (.iaload, 1) := by decide +kernel
theorem dX12_laysCanon_20 : decode cX12_laysCanon 20 = .ok (.iconst (-1), 1) := by decide +kernel
theorem dX12_laysCanon_21 : decode cX12_laysCanon 21 = .ok (.if_icmp .eq 22, 3) := by decide +kernel
theorem dX12_laysCanon_24 : decode cX12_laysCanon 24 = .ok (.aload_n 0, 1) := by decide +kernel
theorem dX12_laysCanon_25 : decode cX12_laysCanon 25 = .ok (.aload_n 0, 1) := by decide +kernel
theorem dX12_laysCanon_26 : decode cX12_laysCanon 26 = .ok (.getfield 70, 3) := by decide +kernel
theorem dX12_laysCanon_29 : decode cX12_laysCanon 29 = .ok (.aload_n 0, 1) := by decide +kernel
theorem dX12_laysCanon_30 : decode cX12_laysCanon 30 = .ok (.getfield 100, 3) := by decide +kernel
theorem dX12_laysCanon_33 : decode cX12_laysCanon 33 = .ok (.iload_n 3, 1) := by decide +kernel
theorem dX12_laysCanon_34 : decode cX12_laysCanon 34 = .ok (.iaload, 1) := by decide +kernel
theorem dX12_laysCanon_35 : decode cX12_laysCanon 35 = .ok (.iaload, 1) := by decide +kernel
theorem dX12_laysCanon_36 : decode cX12_laysCanon 36 = .ok (.iload_n 3, 1) := by decide +kernel
theorem dX12_laysCanon_37 : decode cX12_laysCanon 37 = .ok (.invokevirtual 539, 3) := by decide +kernel
theorem dX12_laysCanon_40 : decode cX12_laysCanon 40 = .ok (.ifCond .ne 9, 3) := by decide +kernel
theorem dX12_laysCanon_43 : decode cX12_laysCanon 43 = .ok (.iinc 3 1, 3) := by decide +kernel
theorem dX12_laysCanon_46 : decode cX12_laysCanon 46 = .ok (.goto (-37), 3) := by decide +kernel
theorem dX12_laysCanon_49 : decode cX12_laysCanon 49 = .ok (.aload_n 0, 1) := by decide +kernel
theorem dX12_laysCanon_50 : decode cX12_laysCanon 50 = .ok (.getfield 70, 3) := by decide +kernel
theorem dX12_laysCanon_53 : decode cX12_laysCanon 53 = .ok (.aload_n 0, 1) := by decide +kernel
theorem dX12_laysCanon_54 : decode cX12_laysCanon 54 = .ok (.getfield 100, 3) := by decide +kernel
theorem dX12_laysCanon_57 : decode cX12_laysCanon 57 = .ok (.iload_n 3, 1) := by decide +kernel
theorem dX12_laysCanon_58 : decode cX12_laysCanon 58 = .ok (.iaload, 1) := by decide +kernel
theorem dX12_laysCanon_59 : decode cX12_laysCanon 59 = .ok (.iaload, 1) := by decide +kernel
theorem dX12_laysCanon_60 : decode cX12_laysCanon 60 = .ok (.istore 4, 2) := by decide +kernel
theorem dX12_laysCanon_62 : decode cX12_laysCanon 62 = .ok (.aload_n 0, 1) := by decide +kernel
theorem dX12_laysCanon_63 : decode cX12_laysCanon 63 = .ok (.getfield 94, 3) := by decide +kernel
theorem dX12_laysCanon_66 : decode cX12_laysCanon 66 = .ok (.iload_n 2, 1) := by decide +kernel
theorem dX12_laysCanon_67 : decode cX12_laysCanon 67 = .ok (.iload_n 3, 1) := by decide +kernel
theorem dX12_laysCanon_68 : decode cX12_laysCanon 68 = .ok (.iastore, 1) := by decide +kernel
theorem dX12_laysCanon_69 : decode cX12_laysCanon 69 = .ok (.aload_n 0, 1) := by decide +kernel
theorem dX12_laysCanon_70 : decode cX12_laysCanon 70 = .ok (.getfield 97, 3) := by decide +kernel
theorem dX12_laysCanon_73 : decode cX12_laysCanon 73 = .ok (.iload_n 2, 1) := by decide +kernel
theorem dX12_laysCanon_74 : decode cX12_laysCanon 74 = .ok (.iload 4, 2) := by decide +kernel
theorem dX12_laysCanon_76 : decode cX12_laysCanon 76 = .ok (.iastore, 1) := by decide +kernel
theorem dX12_laysCanon_77 : decode cX12_laysCanon 77 = .ok (.aload_n 0, 1) := by decide +kernel
theorem dX12_laysCanon_78 : decode cX12_laysCanon 78 = .ok (.getfield 91, 3) := by decide +kernel
theorem dX12_laysCanon_81 : decode cX12_laysCanon 81 = .ok (.iload 4, 2) := by decide +kernel
theorem dX12_laysCanon_83 : decode cX12_laysCanon 83 = .ok (.iload_n 2, 1) := by decide +kernel
theorem dX12_laysCanon_84 : decode cX12_laysCanon 84 = .ok (.iastore, 1) := by decide +kernel
theorem dX12_laysCanon_85 : decode cX12_laysCanon 85 = .ok (.aload_n 0, 1) := by decide +kernel
theorem dX12_laysCanon_86 : decode cX12_laysCanon 86 = .ok (.iload_n 3, 1) := by decide +kernel
theorem dX12_laysCanon_87 : decode cX12_laysCanon 87 = .ok (.iload 4, 2) := by decide +kernel
theorem dX12_laysCanon_89 : decode cX12_laysCanon 89 = .ok (.invokevirtual 535, 3) := by decide +kernel
theorem dX12_laysCanon_92 : decode cX12_laysCanon 92 = .ok (.iinc 2 1, 3) := by decide +kernel
theorem dX12_laysCanon_95 : decode cX12_laysCanon 95 = .ok (.goto (-93), 3) := by decide +kernel
theorem dX12_laysCanon_98 : decode cX12_laysCanon 98 = .ok (.return_, 1) := by decide +kernel
abbrev rmX12_laysCanon : Room := { frames := 1, cells := 0, slots := 0, locals := 24 }
noncomputable def fLX12_laysCanon_9 (σ : St) (x0 : Nat) (x1 : Int32) (x2 : Int32) (a : Int32) : Option ((Int32) ⊕ (Int32)) :=
(gR σ x0 11 43).bind fun v10 =>
(gR σ x0 11 54).bind fun v14 =>
(aI σ v14 0 a).bind fun v18 =>
(aI σ v10 0 v18).bind fun v19 =>
if v19 = (((-1) : Int32)) then
(xlet (a + 1) fun v43 =>
some (Sum.inl v43))
else
((gR σ x0 11 43).bind fun v26 =>
(gR σ x0 11 54).bind fun v30 =>
(aI σ v30 0 a).bind fun v34 =>
(aI σ v26 0 v34).bind fun v35 =>
(isO σ x0 11).bind fun _ =>
(fX12_isThere σ x0 v35 a).bind fun w37 =>
if w37 = 0 then
(xlet (a + 1) fun v43 =>
some (Sum.inl v43))
else
(some (Sum.inr a)))
set_option maxHeartbeats 4000000 in
set_option maxRecDepth 100000 in
theorem lpX12_laysCanon_9 {X : xX} {σ : St} {x0 : Nat} {x1 : Int32} {x2 : Int32}  {a0 : Int32} {b : Int32} (C : Ok X cX12_laysCanon 5 RX12 rmX12_laysCanon none) (hb : iterP (fLX12_laysCanon_9 σ x0 x1 x2) a0 = some b) (hy0 : ∀ s, b = s → V X (0, 0) σ 49 [(0, .ref (x0)), (1, .int (x1)), (2, .int (x2)), (3, .int (s))] []) : V X (0, 0) σ 9 [(0, .ref (x0)), (1, .int (x1)), (2, .int (x2)), (3, .int (a0))] [] := by
  obtain ⟨n, hn⟩ := iterP_some hb
  refine x_loop (P := fun a => V X (0, 0) σ 9 [(0, .ref (x0)), (1, .int (x1)), (2, .int (x2)), (3, .int (a))] []) ?_ n a0 hn
  intro a c hf hK hxx
  have hx0 : ∀ s, c = Sum.inr s → V X (0, 0) σ 49 [(0, .ref (x0)), (1, .int (x1)), (2, .int (x2)), (3, .int (s))] [] := fun s e => hy0 s (hxx _ e).symm
  unfold fLX12_laysCanon_9 at hf
  refine x_aload_n C dX12_laysCanon_9 10 rfl 0 rfl rfl ?_
  obtain ⟨v10, hv10, hf⟩ := x_bind hf
  refine x_getR C dX12_laysCanon_10 13 rfl hv10 cl11 rfl w1486 ?_
  refine x_aload_n C dX12_laysCanon_13 14 rfl 0 rfl rfl ?_
  obtain ⟨v14, hv14, hf⟩ := x_bind hf
  refine x_getR C dX12_laysCanon_14 17 rfl hv14 cl11 rfl w1497 ?_
  refine x_iload_n C dX12_laysCanon_17 18 rfl 3 rfl rfl ?_
  obtain ⟨v18, hv18, hf⟩ := x_bind hf
  refine x_iaload C dX12_laysCanon_18 19 rfl hv18 ?_
  obtain ⟨v19, hv19, hf⟩ := x_bind hf
  refine x_iaload C dX12_laysCanon_19 20 rfl hv19 ?_
  refine x_iconst C dX12_laysCanon_20 21 rfl (-1) (by decide) ?_
  refine x_icmp_eq C dX12_laysCanon_21 43 (by decide) 24 rfl (fun hc => ?_) (fun hc => ?_)
  · have hf := (if_pos hc).symm.trans hf
    obtain ⟨v43, ev43, hf⟩ := xlet_some hf
    refine x_iinc C dX12_laysCanon_43 46 rfl 3 rfl v43 ev43 rfl [(3, .int (v43)), (0, .ref (x0)), (1, .int (x1)), (2, .int (x2))] rfl ?_
    refine x_goto C dX12_laysCanon_46 9 (by decide) ?_
    refine x_lv [1, 2, 3, 0] (lv' := [(0, .ref (x0)), (1, .int (x1)), (2, .int (x2)), (3, .int (v43))]) rfl ?_
    exact hK _ (Option.some.inj hf).symm
  · have hf := (if_neg hc).symm.trans hf
    refine x_aload_n C dX12_laysCanon_24 25 rfl 0 rfl rfl ?_
    refine x_aload_n C dX12_laysCanon_25 26 rfl 0 rfl rfl ?_
    obtain ⟨v26, hv26, hf⟩ := x_bind hf
    refine x_getR C dX12_laysCanon_26 29 rfl hv26 cl11 rfl w1486 ?_
    refine x_aload_n C dX12_laysCanon_29 30 rfl 0 rfl rfl ?_
    obtain ⟨v30, hv30, hf⟩ := x_bind hf
    refine x_getR C dX12_laysCanon_30 33 rfl hv30 cl11 rfl w1497 ?_
    refine x_iload_n C dX12_laysCanon_33 34 rfl 3 rfl rfl ?_
    obtain ⟨v34, hv34, hf⟩ := x_bind hf
    refine x_iaload C dX12_laysCanon_34 35 rfl hv34 ?_
    obtain ⟨v35, hv35, hf⟩ := x_bind hf
    refine x_iaload C dX12_laysCanon_35 36 rfl hv35 ?_
    refine x_iload_n C dX12_laysCanon_36 37 rfl 3 rfl rfl ?_
    obtain ⟨o37, ho37, hf⟩ := x_bind hf
    obtain ⟨w37, hw37, hf⟩ := x_bind hf
    refine x_callVi C dX12_laysCanon_37 40 rfl ho37 cl11.1 rfl (cX12_isTherec hw37) kX12_isThere kvX12_isThere w2018 ⟨rfl, rfl⟩ ⟨Nat.le_of_ble_eq_true rfl, Nat.le_of_ble_eq_true rfl⟩ ⟨Nat.zero_le _, Nat.zero_le _⟩ rfl rfl (Nat.le_of_ble_eq_true rfl) ?_
    refine x_if_ne C dX12_laysCanon_40 49 (by decide) 43 rfl (fun hc => ?_) (fun hc => ?_)
    · have hf := (if_neg hc).symm.trans hf
      exact hx0 _ (Option.some.inj hf).symm
    · have hf := (if_pos hc).symm.trans hf
      obtain ⟨v43, ev43, hf⟩ := xlet_some hf
      refine x_iinc C dX12_laysCanon_43 46 rfl 3 rfl v43 ev43 rfl [(3, .int (v43)), (0, .ref (x0)), (1, .int (x1)), (2, .int (x2))] rfl ?_
      refine x_goto C dX12_laysCanon_46 9 (by decide) ?_
      refine x_lv [1, 2, 3, 0] (lv' := [(0, .ref (x0)), (1, .int (x1)), (2, .int (x2)), (3, .int (v43))]) rfl ?_
      exact hK _ (Option.some.inj hf).symm
noncomputable def fLX12_laysCanon_2 (x0 : Nat) (x1 : Int32) (a : Int32 × St) : Option ((Int32 × St) ⊕ (St)) :=
if x1 ≤ a.1 then
(some (Sum.inr a.2))
else
((iterP (fLX12_laysCanon_9 a.2 x0 x1 a.1) 0).bind fun b9 =>
(gR a.2 x0 11 43).bind fun v50 =>
(gR a.2 x0 11 54).bind fun v54 =>
(aI a.2 v54 0 b9).bind fun v58 =>
(aI a.2 v50 0 v58).bind fun v59 =>
(gR a.2 x0 11 52).bind fun v63 =>
(sI a.2 v63 a.1 b9).bind fun σ68 =>
(gR σ68 x0 11 53).bind fun v70 =>
(sI σ68 v70 a.1 v59).bind fun σ76 =>
(gR σ76 x0 11 51).bind fun v78 =>
(sI σ76 v78 v59 a.1).bind fun σ84 =>
(isO σ84 x0 11).bind fun _ =>
(fX12_replaces σ84 x0 b9 v59).bind fun w89 =>
xlet (a.1 + 1) fun v92 =>
some (Sum.inl (v92, w89)))
set_option maxHeartbeats 4000000 in
set_option maxRecDepth 100000 in
theorem lpX12_laysCanon_2 {X : xX} {x0 : Nat} {x1 : Int32}  {a0 : Int32 × St} {b : St} (C : Ok X cX12_laysCanon 5 RX12 rmX12_laysCanon none) (hb : iterP (fLX12_laysCanon_2 x0 x1) a0 = some b) (hy0 : ∀ s, b = s → V X (0, 0) s 98 [] []) : V X (0, 0) a0.2 2 [(0, .ref (x0)), (1, .int (x1)), (2, .int (a0.1))] [] := by
  obtain ⟨n, hn⟩ := iterP_some hb
  refine x_loop (P := fun a => V X (0, 0) a.2 2 [(0, .ref (x0)), (1, .int (x1)), (2, .int (a.1))] []) ?_ n a0 hn
  intro a c hf hK hxx
  have hx0 : ∀ s, c = Sum.inr s → V X (0, 0) s 98 [] [] := fun s e => hy0 s (hxx _ e).symm
  unfold fLX12_laysCanon_2 at hf
  refine x_iload_n C dX12_laysCanon_2 3 rfl 2 rfl rfl ?_
  refine x_iload_n C dX12_laysCanon_3 4 rfl 1 rfl rfl ?_
  refine x_icmp_ge C dX12_laysCanon_4 98 (by decide) 7 rfl (fun hc => ?_) (fun hc => ?_)
  · have hf := (if_pos hc).symm.trans hf
    refine x_lv [] (lv' := []) rfl ?_
    exact hx0 _ (Option.some.inj hf).symm
  · have hf := (if_neg hc).symm.trans hf
    refine x_iconst C dX12_laysCanon_7 8 rfl 0 (by decide) ?_
    refine x_istore_n C dX12_laysCanon_8 9 rfl rfl rfl [(3, .int (0)), (0, .ref (x0)), (1, .int (x1)), (2, .int (a.1))] rfl ?_
    obtain ⟨b9, hb9, hf⟩ := x_bind hf
    refine x_lv [1, 2, 3, 0] (lv' := [(0, .ref (x0)), (1, .int (x1)), (2, .int (a.1)), (3, .int (0))]) rfl ?_
    refine lpX12_laysCanon_9 C hb9 (fun s9 e9 => ?_)
    subst e9
    refine x_aload_n C dX12_laysCanon_49 50 rfl 0 rfl rfl ?_
    obtain ⟨v50, hv50, hf⟩ := x_bind hf
    refine x_getR C dX12_laysCanon_50 53 rfl hv50 cl11 rfl w1486 ?_
    refine x_aload_n C dX12_laysCanon_53 54 rfl 0 rfl rfl ?_
    obtain ⟨v54, hv54, hf⟩ := x_bind hf
    refine x_getR C dX12_laysCanon_54 57 rfl hv54 cl11 rfl w1497 ?_
    refine x_iload_n C dX12_laysCanon_57 58 rfl 3 rfl rfl ?_
    obtain ⟨v58, hv58, hf⟩ := x_bind hf
    refine x_iaload C dX12_laysCanon_58 59 rfl hv58 ?_
    obtain ⟨v59, hv59, hf⟩ := x_bind hf
    refine x_iaload C dX12_laysCanon_59 60 rfl hv59 ?_
    refine x_istore C dX12_laysCanon_60 62 rfl rfl [(4, .int (v59)), (0, .ref (x0)), (1, .int (x1)), (2, .int (a.1)), (3, .int (b9))] rfl ?_
    refine x_aload_n C dX12_laysCanon_62 63 rfl 1 rfl rfl ?_
    obtain ⟨v63, hv63, hf⟩ := x_bind hf
    refine x_getR C dX12_laysCanon_63 66 rfl hv63 cl11 rfl w1495 ?_
    refine x_iload_n C dX12_laysCanon_66 67 rfl 3 rfl rfl ?_
    refine x_iload_n C dX12_laysCanon_67 68 rfl 4 rfl rfl ?_
    obtain ⟨σ68, hσ68, hf⟩ := x_bind hf
    refine x_iastore C dX12_laysCanon_68 69 rfl hσ68 ?_
    refine x_aload_n C dX12_laysCanon_69 70 rfl 1 rfl rfl ?_
    obtain ⟨v70, hv70, hf⟩ := x_bind hf
    refine x_getR C dX12_laysCanon_70 73 rfl hv70 cl11 rfl w1496 ?_
    refine x_iload_n C dX12_laysCanon_73 74 rfl 3 rfl rfl ?_
    refine x_iload C dX12_laysCanon_74 76 rfl 0 rfl ?_
    obtain ⟨σ76, hσ76, hf⟩ := x_bind hf
    refine x_iastore C dX12_laysCanon_76 77 rfl hσ76 ?_
    refine x_aload_n C dX12_laysCanon_77 78 rfl 1 rfl rfl ?_
    obtain ⟨v78, hv78, hf⟩ := x_bind hf
    refine x_getR C dX12_laysCanon_78 81 rfl hv78 cl11 rfl w1494 ?_
    refine x_iload C dX12_laysCanon_81 83 rfl 0 rfl ?_
    refine x_iload_n C dX12_laysCanon_83 84 rfl 3 rfl rfl ?_
    obtain ⟨σ84, hσ84, hf⟩ := x_bind hf
    refine x_iastore C dX12_laysCanon_84 85 rfl hσ84 ?_
    refine x_aload_n C dX12_laysCanon_85 86 rfl 1 rfl rfl ?_
    refine x_iload_n C dX12_laysCanon_86 87 rfl 4 rfl rfl ?_
    refine x_iload C dX12_laysCanon_87 89 rfl 0 rfl ?_
    obtain ⟨o89, ho89, hf⟩ := x_bind hf
    obtain ⟨w89, hw89, hf⟩ := x_bind hf
    refine x_callVv C dX12_laysCanon_89 92 rfl ho89 cl11.1 rfl (cX12_replacesc hw89) kX12_replaces kvX12_replaces w2010 ⟨rfl, rfl⟩ ⟨Nat.le_of_ble_eq_true rfl, Nat.le_of_ble_eq_true rfl⟩ ⟨Nat.zero_le _, Nat.zero_le _⟩ rfl rfl (Nat.le_of_ble_eq_true rfl) ?_
    obtain ⟨v92, ev92, hf⟩ := xlet_some hf
    refine x_iinc C dX12_laysCanon_92 95 rfl 3 rfl v92 ev92 rfl [(2, .int (v92)), (4, .int (v59)), (0, .ref (x0)), (1, .int (x1)), (3, .int (b9))] rfl ?_
    refine x_goto C dX12_laysCanon_95 2 (by decide) ?_
    refine x_lv [2, 3, 0] (lv' := [(0, .ref (x0)), (1, .int (x1)), (2, .int (v92))]) rfl ?_
    exact hK _ (Option.some.inj hf).symm
noncomputable def fX12_laysCanon (σ : St) (x0 : Nat) (x1 : Int32) : Option (St) :=
(iterP (fLX12_laysCanon_2 x0 x1) (0, σ)).bind fun b2 =>
some b2
set_option maxHeartbeats 4000000 in
set_option maxRecDepth 100000 in
theorem cX12_laysCanonc {l : Launch} {G : xG} {A : Nat → Prop} {σ : St} {x0 : Nat} {x1 : Int32} {c : St} (hf : fX12_laysCanon σ x0 x1 = some c) : Con l yX12_laysCanon (xws yX12_laysCanon cX12_laysCanon 5 none) rmX12_laysCanon [.ref (x0), .int (x1)] G A σ none c := by
  refine x_start rfl (Nat.le_of_ble_eq_true rfl) (fun X _ _ _ C hE0 => ?_)
  have hE : ∀ r, c = r → xE1 X none r := fun r e => e ▸ hE0
  show V X (0, 0) σ 0 [(0, .ref (x0)), (1, .int (x1))] []
  unfold fX12_laysCanon at hf
  refine x_iconst C dX12_laysCanon_0 1 rfl 0 (by decide) ?_
  refine x_istore_n C dX12_laysCanon_1 2 rfl rfl rfl [(2, .int (0)), (0, .ref (x0)), (1, .int (x1))] rfl ?_
  obtain ⟨b2, hb2, hf⟩ := x_bind hf
  refine x_lv [1, 2, 0] (lv' := [(0, .ref (x0)), (1, .int (x1)), (2, .int (0))]) rfl ?_
  refine lpX12_laysCanon_2 C hb2 (fun s2 e2 => ?_)
  subst e2
  exact x_vret C (hE _ (Option.some.inj hf).symm) dX12_laysCanon_98
