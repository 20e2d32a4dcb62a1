/-! methods that may throw: X11_falls X11_far X11_free X11_needWay X11_go X11_head X11_letter X11_made X11_make X11_meet -/
theorem dX11_falls_0 : decode cX11_falls 0 = .ok (.aload_n 0, 1) := by decide +kernel
theorem dX11_falls_1 : decode cX11_falls 1 = .ok (.iload_n 1, 1) := by decide +kernel
theorem dX11_falls_2 : decode cX11_falls 2 = .ok (.invokevirtual 173, 3) := by decide +kernel
theorem dX11_falls_5 : decode cX11_falls 5 = .ok (.aload_n 0, 1) := by decide +kernel
theorem dX11_falls_6 : decode cX11_falls 6 = .ok (.getfield 23, 3) := by decide +kernel
theorem dX11_falls_9 : decode cX11_falls 9 = .ok (.getfield 52, 3) := by decide +kernel
theorem dX11_falls_12 : decode cX11_falls 12 = .ok (.iload_n 1, 1) := by decide +kernel
theorem dX11_falls_13 : decode cX11_falls 13 = .ok (.invokevirtual 327, 3) := by decide +kernel
theorem dX11_falls_16 : decode cX11_falls 16 = .ok (.ireturn, 1) := by decide +kernel
abbrev rmX11_falls : Room := { frames := 8, cells := 1, slots := 6, locals := 141 }
noncomputable def fX11_falls (σ : St) (x0 : Nat) (x1 : Int32) : Option ((Int32 ⊕ String) × St) :=
(isO σ x0 10).bind fun _ =>
(fX11_needRule σ x0 x1).bind fun w2 =>
(match w2 with
| (Sum.inl _, σ2) =>
(gR σ2 x0 10 3).bind fun v6 =>
(gR σ2 v6 2 0).bind fun v9 =>
(isO σ2 v9 8).bind fun _ =>
(fX8_isFalling σ2 v9 x1).bind fun w13 =>
(zok w13).bind fun z16 =>
some (Sum.inl z16, σ2)
| (Sum.inr E2, σ2) =>
some (Sum.inr E2, σ2))
set_option maxHeartbeats 4000000 in
set_option maxRecDepth 100000 in
theorem cX11_fallsc {l : Launch} (hst : l.stackTraces = false) {adK adV : Nat → Nat} {G : xG} {A : Nat → Prop} {σ : St} {x0 : Nat} {x1 : Int32} {c : (Int32 ⊕ String) × St} (hf : fX11_falls σ x0 x1 = some c) : ConX l yX11_falls (xws yX11_falls cX11_falls 2 (some .boolean)) rmX11_falls 1 6 [.ref (x0), .int (x1)] adK adV G A σ (xoI c.1) c.2 := by
  refine z_start hst rfl (Nat.le_of_ble_eq_true rfl) (fun X _ _ _ C O hE0 => ?_)
  have hE : ∀ r, c = r → zE X 1 6 (xoI r.1) r.2 := fun r e => e ▸ hE0
  show Vz X (0, 0) σ 0 [(0, .ref (x0)), (1, .int (x1))] []
  unfold fX11_falls at hf
  refine z_aload_n C dX11_falls_0 1 rfl 0 rfl rfl ?_
  refine z_iload_n C dX11_falls_1 2 rfl 1 rfl rfl ?_
  obtain ⟨o2, ho2, hf⟩ := x_bind hf
  obtain ⟨⟨r2, σ2⟩, hw2, hf⟩ := x_bind hf
  cases r2 with
  | inl _ =>
    dsimp only at hf
    refine z_cVn C O.2.2 dX11_falls_2 5 rfl ho2 cl10.1 rfl (cX11_needRulec O.1 hw2) kX11_needRule kvX11_needRule w1049 ⟨rfl, rfl⟩ ⟨Nat.le_of_ble_eq_true rfl, Nat.le_of_ble_eq_true rfl⟩ ⟨Nat.le_of_ble_eq_true rfl, Nat.le_of_ble_eq_true rfl⟩ rfl rfl (Nat.le_of_ble_eq_true rfl) (1, 6) rfl ?_
    refine z_aload_n C dX11_falls_5 6 rfl 0 rfl rfl ?_
    obtain ⟨v6, hv6, hf⟩ := x_bind hf
    refine z_getR C dX11_falls_6 9 rfl hv6 cl10 rfl w518 ?_
    obtain ⟨v9, hv9, hf⟩ := x_bind hf
    refine z_getR C dX11_falls_9 12 rfl hv9 cl2 rfl w235 ?_
    refine z_iload_n C dX11_falls_12 13 rfl 1 rfl rfl ?_
    obtain ⟨o13, ho13, hf⟩ := x_bind hf
    obtain ⟨w13, hw13, hf⟩ := x_bind hf
    refine z_callVi C dX11_falls_13 16 rfl ho13 cl8.1 rfl (cX8_isFallingc hw13) kX8_isFalling kvX8_isFalling w1305 ⟨rfl, rfl⟩ ⟨Nat.le_of_ble_eq_true rfl, Nat.le_of_ble_eq_true rfl⟩ ⟨Nat.le_of_ble_eq_true rfl, Nat.le_of_ble_eq_true rfl⟩ rfl rfl (Nat.le_of_ble_eq_true rfl) ?_
    obtain ⟨z16, hz16, hf⟩ := x_bind hf
    refine z_topi (zok_nar hz16).1 ?_
    exact z_zret C (zok_w hz16) (hE _ (Option.some.inj hf).symm) ⟨Nat.le_of_ble_eq_true rfl, Nat.le_of_ble_eq_true rfl⟩ dX11_falls_16
  | inr E2 =>
    dsimp only at hf
    exact z_cVt C O dX11_falls_2 ho2 cl10.1 rfl (cX11_needRulec O.1 hw2) kX11_needRule kvX11_needRule w1049 ⟨rfl, rfl⟩ ⟨Nat.le_of_ble_eq_true rfl, Nat.le_of_ble_eq_true rfl⟩ ⟨Nat.le_of_ble_eq_true rfl, Nat.le_of_ble_eq_true rfl⟩ rfl rfl (Nat.le_of_ble_eq_true rfl) ⟨Nat.le_of_ble_eq_true rfl, Nat.le_of_ble_eq_true rfl⟩ (hE _ (Option.some.inj hf).symm)
theorem dX11_far_0 : decode cX11_far 0 = .ok (.iload_n 1, 1) := by decide +kernel
theorem dX11_far_1 : decode cX11_far 1 = .ok (.invokestatic 229, 3) := by decide +kernel
theorem dX11_far_4 : decode cX11_far 4 = .ok (.iload_n 2, 1) := by decide +kernel
theorem dX11_far_5 : decode cX11_far 5 = .ok (.invokestatic 229, 3) := by decide +kernel
theorem dX11_far_8 : decode cX11_far 8 = .ok (.aload_n 0, 1) := by decide +kernel
theorem dX11_far_9 : decode cX11_far 9 = .ok (.getfield 84, 3) := by decide +kernel
theorem dX11_far_12 : decode cX11_far 12 = .ok (.aload_n 0, 1) := by decide +kernel
theorem dX11_far_13 : decode cX11_far 13 = .ok (.getfield 23, 3) := by decide +kernel
theorem dX11_far_16 : decode cX11_far 16 = .ok (.getfield 232, 3) := by decide +kernel
theorem dX11_far_19 : decode cX11_far 19 = .ok (.iload_n 1, 1) := by decide +kernel
theorem dX11_far_20 : decode cX11_far 20 = .ok (.laload, 1) := by decide +kernel
theorem dX11_far_21 : decode cX11_far 21 = .ok (.invokevirtual 235, 3) := by decide +kernel
theorem dX11_far_24 : decode cX11_far 24 = .ok (.aload_n 0, 1) := by decide +kernel
theorem dX11_far_25 : decode cX11_far 25 = .ok (.getfield 84, 3) := by decide +kernel
theorem dX11_far_28 : decode cX11_far 28 = .ok (.aload_n 0, 1) := by decide +kernel
theorem dX11_far_29 : decode cX11_far 29 = .ok (.getfield 23, 3) := by decide +kernel
theorem dX11_far_32 : decode cX11_far 32 = .ok (.getfield 232, 3) := by decide +kernel
theorem dX11_far_35 : decode cX11_far 35 = .ok (.iload_n 2, 1) := by decide +kernel
theorem dX11_far_36 : decode cX11_far 36 = .ok (.laload, 1) := by decide +kernel
theorem dX11_far_37 : decode cX11_far 37 = .ok (.invokevirtual 306, 3) := by decide +kernel
theorem dX11_far_40 : decode cX11_far 40 = .ok (.istore_n 3, 1) := by decide +kernel
theorem dX11_far_41 : decode cX11_far 41 = .ok (.iload_n 3, 1) := by decide +kernel
theorem dX11_far_42 : decode cX11_far 42 = .ok (.iconst (-1), 1) := by decide +kernel
theorem dX11_far_43 : decode cX11_far 43 = .ok (.if_icmp .ne 7, 3) := by decide +kernel
theorem dX11_far_46 : decode cX11_far 46 = .ok (.iconst (-1), 1) := by decide +kernel
theorem dX11_far_47 : decode cX11_far 47 = .ok (.goto 12, 3) := by decide +kernel
theorem dX11_far_50 : decode cX11_far 50 = .ok (.aload_n 0, 1) := by decide +kernel
theorem dX11_far_51 : decode cX11_far 51 = .ok (.getfield 84, 3) := by decide +kernel
theorem dX11_far_54 : decode cX11_far 54 = .ok (.getfield 303, 3) := by decide +kernel
theorem dX11_far_57 : decode cX11_far 57 = .ok (.iload_n 3, 1) := by decide +kernel
theorem dX11_far_58 : decode cX11_far 58 = .ok (.iaload, 1) := by decide +kernel
theorem dX11_far_59 : decode cX11_far 59 = .ok (.ireturn, 1) := by decide +kernel
abbrev rmX11_far : Room := { frames := 8, cells := 2, slots := 12, locals := 140 }
noncomputable def fX11_far (σ : St) (x0 : Nat) (x1 : Int32) (x2 : Int32) : Option ((Int32 ⊕ String) × St) :=
(fX11_needPlace σ x1).bind fun w1 =>
(match w1 with
| (Sum.inl _, σ1) =>
(fX11_needPlace σ1 x2).bind fun w5 =>
(match w5 with
| (Sum.inl _, σ5) =>
(gR σ5 x0 10 12).bind fun v9 =>
(gR σ5 x0 10 3).bind fun v13 =>
(gR σ5 v13 2 2).bind fun v16 =>
(aL σ5 v16 x1).bind fun v20 =>
(isO σ5 v9 6).bind fun _ =>
(fX6_spread σ5 v9 v20).bind fun w21 =>
(gR w21 x0 10 12).bind fun v25 =>
(gR w21 x0 10 3).bind fun v29 =>
(gR w21 v29 2 2).bind fun v32 =>
(aL w21 v32 x2).bind fun v36 =>
(isO w21 v25 6).bind fun _ =>
(fX6_find w21 v25 v36).bind fun w37 =>
if w37 = (((-1) : Int32)) then
(some (Sum.inl (-1), w21))
else
((gR w21 x0 10 12).bind fun v51 =>
(gR w21 v51 6 3).bind fun v54 =>
(aI w21 v54 0 w37).bind fun v58 =>
some (Sum.inl v58, w21))
| (Sum.inr E5, σ5) =>
some (Sum.inr E5, σ5))
| (Sum.inr E1, σ1) =>
some (Sum.inr E1, σ1))
set_option maxHeartbeats 4000000 in
set_option maxRecDepth 100000 in
theorem cX11_farc {l : Launch} (hst : l.stackTraces = false) {adK adV : Nat → Nat} {G : xG} {A : Nat → Prop} {σ : St} {x0 : Nat} {x1 : Int32} {x2 : Int32} {c : (Int32 ⊕ String) × St} (hf : fX11_far σ x0 x1 x2 = some c) : ConX l yX11_far (xws yX11_far cX11_far 4 (some .int)) rmX11_far 2 12 [.ref (x0), .int (x1), .int (x2)] adK adV G A σ (xoI c.1) c.2 := by
  refine z_start hst rfl (Nat.le_of_ble_eq_true rfl) (fun X _ _ _ C O hE0 => ?_)
  have hE : ∀ r, c = r → zE X 2 12 (xoI r.1) r.2 := fun r e => e ▸ hE0
  show Vz X (0, 0) σ 0 [(0, .ref (x0)), (1, .int (x1)), (2, .int (x2))] []
  unfold fX11_far at hf
  refine z_iload_n C dX11_far_0 1 rfl 1 rfl rfl ?_
  obtain ⟨⟨r1, σ1⟩, hw1, hf⟩ := x_bind hf
  cases r1 with
  | inl _ =>
    dsimp only at hf
    refine z_cSn C O.2.2 dX11_far_1 4 rfl (cX11_needPlacec O.1 hw1) kX11_needPlace ksX11_needPlace w1111 ⟨rfl, rfl⟩ ⟨Nat.le_of_ble_eq_true rfl, Nat.le_of_ble_eq_true rfl⟩ ⟨Nat.le_of_ble_eq_true rfl, Nat.le_of_ble_eq_true rfl⟩ rfl rfl (Nat.le_of_ble_eq_true rfl) (1, 6) rfl ?_
    refine z_iload_n C dX11_far_4 5 rfl 2 rfl rfl ?_
    obtain ⟨⟨r5, σ5⟩, hw5, hf⟩ := x_bind hf
    cases r5 with
    | inl _ =>
      dsimp only at hf
      refine z_cSn C O.2.2 dX11_far_5 8 rfl (cX11_needPlacec O.1 hw5) kX11_needPlace ksX11_needPlace w1111 ⟨rfl, rfl⟩ ⟨Nat.le_of_ble_eq_true rfl, Nat.le_of_ble_eq_true rfl⟩ ⟨Nat.le_of_ble_eq_true rfl, Nat.le_of_ble_eq_true rfl⟩ rfl rfl (Nat.le_of_ble_eq_true rfl) (2, 12) rfl ?_
      refine z_aload_n C dX11_far_8 9 rfl 0 rfl rfl ?_
      obtain ⟨v9, hv9, hf⟩ := x_bind hf
      refine z_getR C dX11_far_9 12 rfl hv9 cl10 rfl w527 ?_
      refine z_aload_n C dX11_far_12 13 rfl 0 rfl rfl ?_
      obtain ⟨v13, hv13, hf⟩ := x_bind hf
      refine z_getR C dX11_far_13 16 rfl hv13 cl10 rfl w518 ?_
      obtain ⟨v16, hv16, hf⟩ := x_bind hf
      refine z_getR C dX11_far_16 19 rfl hv16 cl2 rfl w241 ?_
      refine z_iload_n C dX11_far_19 20 rfl 1 rfl rfl ?_
      obtain ⟨v20, hv20, hf⟩ := x_bind hf
      refine z_laload C dX11_far_20 21 rfl hv20 ?_
      obtain ⟨o21, ho21, hf⟩ := x_bind hf
      obtain ⟨w21, hw21, hf⟩ := x_bind hf
      refine z_callVv C dX11_far_21 24 rfl ho21 cl6.1 rfl (cX6_spreadc hw21) kX6_spread kvX6_spread w1114 ⟨rfl, rfl⟩ ⟨Nat.le_of_ble_eq_true rfl, Nat.le_of_ble_eq_true rfl⟩ ⟨Nat.le_of_ble_eq_true rfl, Nat.le_of_ble_eq_true rfl⟩ rfl rfl (Nat.le_of_ble_eq_true rfl) ?_
      refine z_aload_n C dX11_far_24 25 rfl 0 rfl rfl ?_
      obtain ⟨v25, hv25, hf⟩ := x_bind hf
      refine z_getR C dX11_far_25 28 rfl hv25 cl10 rfl w527 ?_
      refine z_aload_n C dX11_far_28 29 rfl 0 rfl rfl ?_
      obtain ⟨v29, hv29, hf⟩ := x_bind hf
      refine z_getR C dX11_far_29 32 rfl hv29 cl10 rfl w518 ?_
      obtain ⟨v32, hv32, hf⟩ := x_bind hf
      refine z_getR C dX11_far_32 35 rfl hv32 cl2 rfl w241 ?_
      refine z_iload_n C dX11_far_35 36 rfl 2 rfl rfl ?_
      obtain ⟨v36, hv36, hf⟩ := x_bind hf
      refine z_laload C dX11_far_36 37 rfl hv36 ?_
      obtain ⟨o37, ho37, hf⟩ := x_bind hf
      obtain ⟨w37, hw37, hf⟩ := x_bind hf
      refine z_callVi C dX11_far_37 40 rfl ho37 cl6.1 rfl (cX6_findc hw37) kX6_find kvX6_find w1268 ⟨rfl, rfl⟩ ⟨Nat.le_of_ble_eq_true rfl, Nat.le_of_ble_eq_true rfl⟩ ⟨Nat.le_of_ble_eq_true rfl, Nat.le_of_ble_eq_true rfl⟩ rfl rfl (Nat.le_of_ble_eq_true rfl) ?_
      refine z_istore_n C dX11_far_40 41 rfl rfl rfl [(3, .int (w37)), (0, .ref (x0)), (1, .int (x1)), (2, .int (x2))] rfl ?_
      refine z_iload_n C dX11_far_41 42 rfl 0 rfl rfl ?_
      refine z_iconst C dX11_far_42 43 rfl (-1) (by decide) ?_
      refine z_icmp_ne C dX11_far_43 50 (by decide) 46 rfl (fun hc => ?_) (fun hc => ?_)
      · have hf := (if_neg hc).symm.trans hf
        refine z_aload_n C dX11_far_50 51 rfl 1 rfl rfl ?_
        obtain ⟨v51, hv51, hf⟩ := x_bind hf
        refine z_getR C dX11_far_51 54 rfl hv51 cl10 rfl w527 ?_
        obtain ⟨v54, hv54, hf⟩ := x_bind hf
        refine z_getR C dX11_far_54 57 rfl hv54 cl6 rfl w373 ?_
        refine z_iload_n C dX11_far_57 58 rfl 0 rfl rfl ?_
        obtain ⟨v58, hv58, hf⟩ := x_bind hf
        refine z_iaload C dX11_far_58 59 rfl hv58 ?_
        exact z_iret C (hE _ (Option.some.inj hf).symm) ⟨Nat.le_of_ble_eq_true rfl, Nat.le_of_ble_eq_true rfl⟩ dX11_far_59
      · have hf := (if_pos hc).symm.trans hf
        refine z_iconst C dX11_far_46 47 rfl (-1) (by decide) ?_
        refine z_goto C dX11_far_47 59 (by decide) ?_
        exact z_iret C (hE _ (Option.some.inj hf).symm) ⟨Nat.le_of_ble_eq_true rfl, Nat.le_of_ble_eq_true rfl⟩ dX11_far_59
    | inr E5 =>
      dsimp only at hf
      exact z_cSt C O dX11_far_5 (cX11_needPlacec O.1 hw5) kX11_needPlace ksX11_needPlace w1111 ⟨rfl, rfl⟩ ⟨Nat.le_of_ble_eq_true rfl, Nat.le_of_ble_eq_true rfl⟩ ⟨Nat.le_of_ble_eq_true rfl, Nat.le_of_ble_eq_true rfl⟩ rfl rfl (Nat.le_of_ble_eq_true rfl) ⟨Nat.le_of_ble_eq_true rfl, Nat.le_of_ble_eq_true rfl⟩ (hE _ (Option.some.inj hf).symm)
  | inr E1 =>
    dsimp only at hf
    exact z_cSt C O dX11_far_1 (cX11_needPlacec O.1 hw1) kX11_needPlace ksX11_needPlace w1111 ⟨rfl, rfl⟩ ⟨Nat.le_of_ble_eq_true rfl, Nat.le_of_ble_eq_true rfl⟩ ⟨Nat.le_of_ble_eq_true rfl, Nat.le_of_ble_eq_true rfl⟩ rfl rfl (Nat.le_of_ble_eq_true rfl) ⟨Nat.le_of_ble_eq_true rfl, Nat.le_of_ble_eq_true rfl⟩ (hE _ (Option.some.inj hf).symm)
theorem dX11_free_0 : decode cX11_free 0 = .ok (.iload_n 1, 1) := by decide +kernel
theorem dX11_free_1 : decode cX11_free 1 = .ok (.ifCond .lt 9, 3) := by decide +kernel
theorem dX11_free_4 : decode cX11_free 4 = .ok (.iload_n 1, 1) := by decide +kernel
theorem dX11_free_5 : decode cX11_free 5 = .ok (.bipush 8, 2) := by decide +kernel
theorem dX11_free_7 : decode cX11_free 7 = .ok (.if_icmp .le 14, 3) := by decide +kernel
theorem dX11_free_10 : decode cX11_free 10 = .ok (.new 207, 3) := by decide +kernel
theorem dX11_free_13 : decode cX11_free 13 = .ok (.dup, 1) := by decide +kernel
theorem dX11_free_14 : decode cX11_free 14 = .ok (.ldc_w 368, 3) := by decide +kernel
theorem dX11_free_17 : decode cX11_free 17 = .ok (.invokespecial 211, 3) := by decide +kernel
theorem dX11_free_20 : decode cX11_free 20 = .ok (.athrow, 1) := by decide +kernel
theorem dX11_free_21 : decode cX11_free 21 = .ok (.aload_n 0, 1) := by decide +kernel
theorem dX11_free_22 : decode cX11_free 22 = .ok (.getfield 90, 3) := by decide +kernel
theorem dX11_free_25 : decode cX11_free 25 = .ok (.iload_n 1, 1) := by decide +kernel
theorem dX11_free_26 : decode cX11_free 26 = .ok (.invokevirtual 370, 3) := by decide +kernel
theorem dX11_free_29 : decode cX11_free 29 = .ok (.ireturn, 1) := by decide +kernel
abbrev rmX11_free : Room := { frames := 7, cells := 1, slots := 6, locals := 120 }
noncomputable def fX11_free (σ : St) (x0 : Nat) (x1 : Int32) : Option ((Int32 ⊕ String) × St) :=
if x1 < 0 then
(some (Sum.inr xIAE, σ))
else
(if x1 ≤ ((8 : Int32)) then
((gR σ x0 10 13).bind fun v22 =>
(isO σ v22 1).bind fun _ =>
(fX1_countOf σ v22 x1).bind fun w26 =>
some (Sum.inl w26.1, w26.2))
else
(some (Sum.inr xIAE, σ)))
set_option maxHeartbeats 4000000 in
set_option maxRecDepth 100000 in
theorem cX11_freec {l : Launch} (hst : l.stackTraces = false) {adK adV : Nat → Nat} {G : xG} {A : Nat → Prop} {σ : St} {x0 : Nat} {x1 : Int32} {c : (Int32 ⊕ String) × St} (hf : fX11_free σ x0 x1 = some c) : ConX l yX11_free (xws yX11_free cX11_free 2 (some .int)) rmX11_free 1 6 [.ref (x0), .int (x1)] adK adV G A σ (xoI c.1) c.2 := by
  refine z_start hst rfl (Nat.le_of_ble_eq_true rfl) (fun X _ _ _ C O hE0 => ?_)
  have hE : ∀ r, c = r → zE X 1 6 (xoI r.1) r.2 := fun r e => e ▸ hE0
  show Vz X (0, 0) σ 0 [(0, .ref (x0)), (1, .int (x1))] []
  unfold fX11_free at hf
  refine z_iload_n C dX11_free_0 1 rfl 1 rfl rfl ?_
  refine z_if_lt C dX11_free_1 10 (by decide) 4 rfl (fun hc => ?_) (fun hc => ?_)
  · have hf := (if_pos hc).symm.trans hf
    exact z_throwSW C O fitIAE w767 w143 hatIAE goodIAE (List.mem_of_getElem? (i := 5) rfl) dX11_free_10 dX11_free_13 dX11_free_14 dX11_free_17 dX11_free_20 ⟨Nat.le_of_ble_eq_true rfl, Nat.le_of_ble_eq_true rfl⟩ ⟨Nat.le_of_ble_eq_true rfl, Nat.le_of_ble_eq_true rfl⟩ ⟨Nat.le_of_ble_eq_true rfl, Nat.le_of_ble_eq_true rfl⟩ (hE _ (Option.some.inj hf).symm)
  · have hf := (if_neg hc).symm.trans hf
    refine z_iload_n C dX11_free_4 5 rfl 1 rfl rfl ?_
    refine z_bipush C dX11_free_5 7 rfl 8 (by decide) ?_
    refine z_icmp_le C dX11_free_7 21 (by decide) 10 rfl (fun hc => ?_) (fun hc => ?_)
    · have hf := (if_pos hc).symm.trans hf
      refine z_aload_n C dX11_free_21 22 rfl 0 rfl rfl ?_
      obtain ⟨v22, hv22, hf⟩ := x_bind hf
      refine z_getR C dX11_free_22 25 rfl hv22 cl10 rfl w528 ?_
      refine z_iload_n C dX11_free_25 26 rfl 1 rfl rfl ?_
      obtain ⟨o26, ho26, hf⟩ := x_bind hf
      obtain ⟨w26, hw26, hf⟩ := x_bind hf
      refine z_callVi C dX11_free_26 29 rfl ho26 cl1.1 rfl (cX1_countOfc hw26) kX1_countOf kvX1_countOf w1365 ⟨rfl, rfl⟩ ⟨Nat.le_of_ble_eq_true rfl, Nat.le_of_ble_eq_true rfl⟩ ⟨Nat.le_of_ble_eq_true rfl, Nat.le_of_ble_eq_true rfl⟩ rfl rfl (Nat.le_of_ble_eq_true rfl) ?_
      exact z_iret C (hE _ (Option.some.inj hf).symm) ⟨Nat.le_of_ble_eq_true rfl, Nat.le_of_ble_eq_true rfl⟩ dX11_free_29
    · have hf := (if_neg hc).symm.trans hf
      exact z_throwSW C O fitIAE w767 w143 hatIAE goodIAE (List.mem_of_getElem? (i := 5) rfl) dX11_free_10 dX11_free_13 dX11_free_14 dX11_free_17 dX11_free_20 ⟨Nat.le_of_ble_eq_true rfl, Nat.le_of_ble_eq_true rfl⟩ ⟨Nat.le_of_ble_eq_true rfl, Nat.le_of_ble_eq_true rfl⟩ ⟨Nat.le_of_ble_eq_true rfl, Nat.le_of_ble_eq_true rfl⟩ (hE _ (Option.some.inj hf).symm)
theorem dX11_needWay_0 : decode cX11_needWay 0 = .ok (.iload_n 0, 1) := by decide +kernel
theorem dX11_needWay_1 : decode cX11_needWay 1 = .ok (.ifCond .lt 8, 3) := by decide +kernel
theorem dX11_needWay_4 : decode cX11_needWay 4 = .ok (.iload_n 0, 1) := by decide +kernel
theorem dX11_needWay_5 : decode cX11_needWay 5 = .ok (.iconst 2, 1) := by decide +kernel
theorem dX11_needWay_6 : decode cX11_needWay 6 = .ok (.if_icmp .le 14, 3) := by decide +kernel
theorem dX11_needWay_9 : decode cX11_needWay 9 = .ok (.new 207, 3) := by decide +kernel
theorem dX11_needWay_12 : decode cX11_needWay 12 = .ok (.dup, 1) := by decide +kernel
theorem dX11_needWay_13 : decode cX11_needWay 13 = .ok (.ldc_w 414, 3) := by decide +kernel
theorem dX11_needWay_16 : decode cX11_needWay 16 = .ok (.invokespecial 211, 3) := by decide +kernel
theorem dX11_needWay_19 : decode cX11_needWay 19 = .ok (.athrow, 1) := by decide +kernel
theorem dX11_needWay_20 : decode cX11_needWay 20 = .ok (.return_, 1) := by decide +kernel
abbrev rmX11_needWay : Room := { frames := 7, cells := 1, slots := 6, locals := 120 }
noncomputable def fX11_needWay (σ : St) (x0 : Int32) : Option ((Unit ⊕ String) × St) :=
if x0 < 0 then
(some (Sum.inr xIAE, σ))
else
(if x0 ≤ ((2 : Int32)) then
(some (Sum.inl (), σ))
else
(some (Sum.inr xIAE, σ)))
set_option maxHeartbeats 4000000 in
set_option maxRecDepth 100000 in
theorem cX11_needWayc {l : Launch} (hst : l.stackTraces = false) {adK adV : Nat → Nat} {G : xG} {A : Nat → Prop} {σ : St} {x0 : Int32} {c : (Unit ⊕ String) × St} (hf : fX11_needWay σ x0 = some c) : ConX l yX11_needWay (xws yX11_needWay cX11_needWay 1 none) rmX11_needWay 1 6 [.int (x0)] adK adV G A σ (xoV c.1) c.2 := by
  refine z_start hst rfl (Nat.le_of_ble_eq_true rfl) (fun X _ _ _ C O hE0 => ?_)
  have hE : ∀ r, c = r → zE X 1 6 (xoV r.1) r.2 := fun r e => e ▸ hE0
  show Vz X (0, 0) σ 0 [(0, .int (x0))] []
  unfold fX11_needWay at hf
  refine z_iload_n C dX11_needWay_0 1 rfl 0 rfl rfl ?_
  refine z_if_lt C dX11_needWay_1 9 (by decide) 4 rfl (fun hc => ?_) (fun hc => ?_)
  · have hf := (if_pos hc).symm.trans hf
    exact z_throwSW C O fitIAE w767 w143 hatIAE goodIAE (List.mem_of_getElem? (i := 11) rfl) dX11_needWay_9 dX11_needWay_12 dX11_needWay_13 dX11_needWay_16 dX11_needWay_19 ⟨Nat.le_of_ble_eq_true rfl, Nat.le_of_ble_eq_true rfl⟩ ⟨Nat.le_of_ble_eq_true rfl, Nat.le_of_ble_eq_true rfl⟩ ⟨Nat.le_of_ble_eq_true rfl, Nat.le_of_ble_eq_true rfl⟩ (hE _ (Option.some.inj hf).symm)
  · have hf := (if_neg hc).symm.trans hf
    refine z_iload_n C dX11_needWay_4 5 rfl 0 rfl rfl ?_
    refine z_iconst C dX11_needWay_5 6 rfl 2 (by decide) ?_
    refine z_icmp_le C dX11_needWay_6 20 (by decide) 9 rfl (fun hc => ?_) (fun hc => ?_)
    · have hf := (if_pos hc).symm.trans hf
      exact z_vret C (hE _ (Option.some.inj hf).symm) ⟨Nat.le_of_ble_eq_true rfl, Nat.le_of_ble_eq_true rfl⟩ dX11_needWay_20
    · have hf := (if_neg hc).symm.trans hf
      exact z_throwSW C O fitIAE w767 w143 hatIAE goodIAE (List.mem_of_getElem? (i := 11) rfl) dX11_needWay_9 dX11_needWay_12 dX11_needWay_13 dX11_needWay_16 dX11_needWay_19 ⟨Nat.le_of_ble_eq_true rfl, Nat.le_of_ble_eq_true rfl⟩ ⟨Nat.le_of_ble_eq_true rfl, Nat.le_of_ble_eq_true rfl⟩ ⟨Nat.le_of_ble_eq_true rfl, Nat.le_of_ble_eq_true rfl⟩ (hE _ (Option.some.inj hf).symm)
theorem dX11_go_0 : decode cX11_go 0 = .ok (.iload_n 1, 1) := by decide +kernel
theorem dX11_go_1 : decode cX11_go 1 = .ok (.invokestatic 229, 3) := by decide +kernel
theorem dX11_go_4 : decode cX11_go 4 = .ok (.iload_n 2, 1) := by decide +kernel
theorem dX11_go_5 : decode cX11_go 5 = .ok (.invokestatic 283, 3) := by decide +kernel
theorem dX11_go_8 : decode cX11_go 8 = .ok (.aload_n 0, 1) := by decide +kernel
theorem dX11_go_9 : decode cX11_go 9 = .ok (.getfield 59, 3) := by decide +kernel
theorem dX11_go_12 : decode cX11_go 12 = .ok (.aload_n 0, 1) := by decide +kernel
theorem dX11_go_13 : decode cX11_go 13 = .ok (.getfield 23, 3) := by decide +kernel
theorem dX11_go_16 : decode cX11_go 16 = .ok (.getfield 232, 3) := by decide +kernel
theorem dX11_go_19 : decode cX11_go 19 = .ok (.iload_n 1, 1) := by decide +kernel
theorem dX11_go_20 : decode cX11_go 20 = .ok (.laload, 1) := by decide +kernel
theorem dX11_go_21 : decode cX11_go 21 = .ok (.iload_n 2, 1) := by decide +kernel
theorem dX11_go_22 : decode cX11_go 22 = .ok (.invokevirtual 286, 3) := by decide +kernel
theorem dX11_go_25 : decode cX11_go 25 = .ok (.pop2, 1) := by decide +kernel
theorem dX11_go_26 : decode cX11_go 26 = .ok (.aload_n 0, 1) := by decide +kernel
theorem dX11_go_27 : decode cX11_go 27 = .ok (.getfield 23, 3) := by decide +kernel
theorem dX11_go_30 : decode cX11_go 30 = .ok (.getfield 263, 3) := by decide +kernel
theorem dX11_go_33 : decode cX11_go 33 = .ok (.iload_n 1, 1) := by decide +kernel
theorem dX11_go_34 : decode cX11_go 34 = .ok (.iaload, 1) := by decide +kernel
theorem dX11_go_35 : decode cX11_go 35 = .ok (.aload_n 0, 1) := by decide +kernel
theorem dX11_go_36 : decode cX11_go 36 = .ok (.getfield 59, 3) := by decide +kernel
theorem dX11_go_39 : decode cX11_go 39 = .ok (.getfield 292, 3) := by decide +kernel
theorem dX11_go_42 : decode cX11_go 42 = .ok (.iadd, 1) := by decide +kernel
theorem dX11_go_43 : decode cX11_go 43 = .ok (.bipush 40, 2) := by decide +kernel
theorem dX11_go_45 : decode cX11_go 45 = .ok (.if_icmp .le 5, 3) := by decide +kernel
theorem dX11_go_48 : decode cX11_go 48 = .ok (.iconst (-1), 1) := by decide +kernel
theorem dX11_go_49 : decode cX11_go 49 = .ok (.ireturn, 1) := by decide +kernel
theorem dX11_go_50 : decode cX11_go 50 = .ok (.aload_n 0, 1) := by decide +kernel
theorem dX11_go_51 : decode cX11_go 51 = .ok (.getfield 37, 3) := by decide +kernel
theorem dX11_go_54 : decode cX11_go 54 = .ok (.aload_n 0, 1) := by decide +kernel
theorem dX11_go_55 : decode cX11_go 55 = .ok (.getfield 23, 3) := by decide +kernel
theorem dX11_go_58 : decode cX11_go 58 = .ok (.invokevirtual 218, 3) := by decide +kernel
theorem dX11_go_61 : decode cX11_go 61 = .ok (.iconst 0, 1) := by decide +kernel
theorem dX11_go_62 : decode cX11_go 62 = .ok (.istore_n 3, 1) := by decide +kernel
theorem dX11_go_63 : decode cX11_go 63 = .ok (.iload_n 3, 1) := by decide +kernel
theorem dX11_go_64 : decode cX11_go 64 = .ok (.aload_n 0, 1) := by decide +kernel
theorem dX11_go_65 : decode cX11_go 65 = .ok (.getfield 59, 3) := by decide +kernel
theorem dX11_go_68 : decode cX11_go 68 = .ok (.getfield 292, 3) := by decide +kernel
theorem dX11_go_71 : decode cX11_go 71 = .ok (.if_icmp .ge 26, 3) := by decide +kernel
theorem dX11_go_74 : decode cX11_go 74 = .ok (.aload_n 0, 1) := by decide +kernel
theorem dX11_go_75 : decode cX11_go 75 = .ok (.getfield 23, 3) := by decide +kernel
theorem dX11_go_78 : decode cX11_go 78 = .ok (.iload_n 1, 1) := by decide +kernel
theorem dX11_go_79 : decode cX11_go 79 = .ok (.aload_n 0, 1) := by decide +kernel
theorem dX11_go_80 : decode cX11_go 80 = .ok (.getfield 59, 3) := by decide +kernel
theorem dX11_go_83 : decode cX11_go 83 = .ok (.getfield 294, 3) := by decide +kernel
theorem dX11_go_86 : decode cX11_go 86 = .ok (.iload_n 3, 1) := by decide +kernel
theorem dX11_go_87 : decode cX11_go 87 = .ok (.iaload, 1) := by decide +kernel
theorem dX11_go_88 : decode cX11_go 88 = .ok (.invokevirtual 280, 3) := by decide +kernel
theorem dX11_go_91 : decode cX11_go 91 = .ok (.iinc 3 1, 3) := by decide +kernel
theorem dX11_go_94 : decode cX11_go 94 = .ok (.goto (-31), 3) := by decide +kernel
theorem dX11_go_97 : decode cX11_go 97 = .ok (.aload_n 0, 1) := by decide +kernel
theorem dX11_go_98 : decode cX11_go 98 = .ok (.getfield 59, 3) := by decide +kernel
theorem dX11_go_101 : decode cX11_go 101 = .ok (.getfield 292, 3) := by decide +kernel
theorem dX11_go_104 : decode cX11_go 104 = .ok (.ireturn, 1) := by decide +kernel
abbrev rmX11_go : Room := { frames := 8, cells := 2, slots := 12, locals := 141 }
noncomputable def fLX11_go_63 (x0 : Nat) (x1 : Int32) (a : Int32 × St) : Option ((Int32 × St) ⊕ (St)) :=
(gR a.2 x0 10 8).bind fun v65 =>
(gI a.2 v65 9 3).bind fun v68 =>
if v68 ≤ a.1 then
(some (Sum.inr a.2))
else
((gR a.2 x0 10 3).bind fun v75 =>
(gR a.2 x0 10 8).bind fun v80 =>
(gR a.2 v80 9 2).bind fun v83 =>
(aI a.2 v83 0 a.1).bind fun v87 =>
(isO a.2 v75 2).bind fun _ =>
(fX2_addStep a.2 v75 x1 v87).bind fun w88 =>
xlet (a.1 + 1) fun v91 =>
some (Sum.inl (v91, w88)))
set_option maxHeartbeats 4000000 in
set_option maxRecDepth 100000 in
theorem lpX11_go_63 {X : xX} {x0 : Nat} {x1 : Int32}  {a0 : Int32 × St} {b : St} (C : Ok X cX11_go 4 RX11 rmX11_go (some .int)) {adK adV : Nat → Nat} (O : OkE X adK adV) (hb : iterP (fLX11_go_63 x0 x1) a0 = some b) (hy0 : ∀ s, b = s → Vz X (2, 12) s 97 [(0, .ref (x0))] []) : Vz X (2, 12) a0.2 63 [(0, .ref (x0)), (1, .int (x1)), (3, .int (a0.1))] [] := by
  obtain ⟨n, hn⟩ := iterP_some hb
  refine x_loop (P := fun a => Vz X (2, 12) a.2 63 [(0, .ref (x0)), (1, .int (x1)), (3, .int (a.1))] []) ?_ n a0 hn
  intro a c hf hK hxx
  have hx0 : ∀ s, c = Sum.inr s → Vz X (2, 12) s 97 [(0, .ref (x0))] [] := fun s e => hy0 s (hxx _ e).symm
  unfold fLX11_go_63 at hf
  refine z_iload_n C dX11_go_63 64 rfl 2 rfl rfl ?_
  refine z_aload_n C dX11_go_64 65 rfl 0 rfl rfl ?_
  obtain ⟨v65, hv65, hf⟩ := x_bind hf
  refine z_getR C dX11_go_65 68 rfl hv65 cl10 rfl w523 ?_
  obtain ⟨v68, hv68, hf⟩ := x_bind hf
  refine z_getI C dX11_go_68 71 rfl hv68 cl9 rfl w317 ?_
  refine z_icmp_ge C dX11_go_71 97 (by decide) 74 rfl (fun hc => ?_) (fun hc => ?_)
  · have hf := (if_pos hc).symm.trans hf
    refine z_lv [0] (lv' := [(0, .ref (x0))]) rfl ?_
    exact hx0 _ (Option.some.inj hf).symm
  · have hf := (if_neg hc).symm.trans hf
    refine z_aload_n C dX11_go_74 75 rfl 0 rfl rfl ?_
    obtain ⟨v75, hv75, hf⟩ := x_bind hf
    refine z_getR C dX11_go_75 78 rfl hv75 cl10 rfl w518 ?_
    refine z_iload_n C dX11_go_78 79 rfl 1 rfl rfl ?_
    refine z_aload_n C dX11_go_79 80 rfl 0 rfl rfl ?_
    obtain ⟨v80, hv80, hf⟩ := x_bind hf
    refine z_getR C dX11_go_80 83 rfl hv80 cl10 rfl w523 ?_
    obtain ⟨v83, hv83, hf⟩ := x_bind hf
    refine z_getR C dX11_go_83 86 rfl hv83 cl9 rfl w315 ?_
    refine z_iload_n C dX11_go_86 87 rfl 2 rfl rfl ?_
    obtain ⟨v87, hv87, hf⟩ := x_bind hf
    refine z_iaload C dX11_go_87 88 rfl hv87 ?_
    obtain ⟨o88, ho88, hf⟩ := x_bind hf
    obtain ⟨w88, hw88, hf⟩ := x_bind hf
    refine z_callVv C dX11_go_88 91 rfl ho88 cl2.1 rfl (cX2_addStepc hw88) kX2_addStep kvX2_addStep w1220 ⟨rfl, rfl⟩ ⟨Nat.le_of_ble_eq_true rfl, Nat.le_of_ble_eq_true rfl⟩ ⟨Nat.le_of_ble_eq_true rfl, Nat.le_of_ble_eq_true rfl⟩ rfl rfl (Nat.le_of_ble_eq_true rfl) ?_
    obtain ⟨v91, ev91, hf⟩ := xlet_some hf
    refine z_iinc C dX11_go_91 94 rfl 2 rfl v91 ev91 rfl [(3, .int (v91)), (0, .ref (x0)), (1, .int (x1))] rfl ?_
    refine z_goto C dX11_go_94 63 (by decide) ?_
    refine z_lv [1, 2, 0] (lv' := [(0, .ref (x0)), (1, .int (x1)), (3, .int (v91))]) rfl ?_
    exact hK _ (Option.some.inj hf).symm
noncomputable def fX11_go (σ : St) (x0 : Nat) (x1 : Int32) (x2 : Int32) : Option ((Int32 ⊕ String) × St) :=
(fX11_needPlace σ x1).bind fun w1 =>
(match w1 with
| (Sum.inl _, σ1) =>
(fX11_needWay σ1 x2).bind fun w5 =>
(match w5 with
| (Sum.inl _, σ5) =>
(gR σ5 x0 10 8).bind fun v9 =>
(gR σ5 x0 10 3).bind fun v13 =>
(gR σ5 v13 2 2).bind fun v16 =>
(aL σ5 v16 x1).bind fun v20 =>
(isO σ5 v9 9).bind fun _ =>
(fX9_runFrom σ5 v9 v20 x2).bind fun w22 =>
(gR w22.2 x0 10 3).bind fun v27 =>
(gR w22.2 v27 2 3).bind fun v30 =>
(aI w22.2 v30 0 x1).bind fun v34 =>
(gR w22.2 x0 10 8).bind fun v36 =>
(gI w22.2 v36 9 3).bind fun v39 =>
if (v34 + v39) ≤ ((40 : Int32)) then
((gR w22.2 x0 10 6).bind fun v51 =>
(gR w22.2 x0 10 3).bind fun v55 =>
(isO w22.2 v51 0).bind fun _ =>
(fX0_keep w22.2 v51 v55).bind fun w58 =>
(iterP (fLX11_go_63 x0 x1) (0, w58)).bind fun b63 =>
(gR b63 x0 10 8).bind fun v98 =>
(gI b63 v98 9 3).bind fun v101 =>
some (Sum.inl v101, b63))
else
(some (Sum.inl (-1), w22.2))
| (Sum.inr E5, σ5) =>
some (Sum.inr E5, σ5))
| (Sum.inr E1, σ1) =>
some (Sum.inr E1, σ1))
set_option maxHeartbeats 4000000 in
set_option maxRecDepth 100000 in
theorem cX11_goc {l : Launch} (hst : l.stackTraces = false) {adK adV : Nat → Nat} {G : xG} {A : Nat → Prop} {σ : St} {x0 : Nat} {x1 : Int32} {x2 : Int32} {c : (Int32 ⊕ String) × St} (hf : fX11_go σ x0 x1 x2 = some c) : ConX l yX11_go (xws yX11_go cX11_go 4 (some .int)) rmX11_go 2 12 [.ref (x0), .int (x1), .int (x2)] adK adV G A σ (xoI c.1) c.2 := by
  refine z_start hst rfl (Nat.le_of_ble_eq_true rfl) (fun X _ _ _ C O hE0 => ?_)
  have hE : ∀ r, c = r → zE X 2 12 (xoI r.1) r.2 := fun r e => e ▸ hE0
  show Vz X (0, 0) σ 0 [(0, .ref (x0)), (1, .int (x1)), (2, .int (x2))] []
  unfold fX11_go at hf
  refine z_iload_n C dX11_go_0 1 rfl 1 rfl rfl ?_
  obtain ⟨⟨r1, σ1⟩, hw1, hf⟩ := x_bind hf
  cases r1 with
  | inl _ =>
    dsimp only at hf
    refine z_cSn C O.2.2 dX11_go_1 4 rfl (cX11_needPlacec O.1 hw1) kX11_needPlace ksX11_needPlace w1111 ⟨rfl, rfl⟩ ⟨Nat.le_of_ble_eq_true rfl, Nat.le_of_ble_eq_true rfl⟩ ⟨Nat.le_of_ble_eq_true rfl, Nat.le_of_ble_eq_true rfl⟩ rfl rfl (Nat.le_of_ble_eq_true rfl) (1, 6) rfl ?_
    refine z_iload_n C dX11_go_4 5 rfl 2 rfl rfl ?_
    obtain ⟨⟨r5, σ5⟩, hw5, hf⟩ := x_bind hf
    cases r5 with
    | inl _ =>
      dsimp only at hf
      refine z_cSn C O.2.2 dX11_go_5 8 rfl (cX11_needWayc O.1 hw5) kX11_needWay ksX11_needWay w1232 ⟨rfl, rfl⟩ ⟨Nat.le_of_ble_eq_true rfl, Nat.le_of_ble_eq_true rfl⟩ ⟨Nat.le_of_ble_eq_true rfl, Nat.le_of_ble_eq_true rfl⟩ rfl rfl (Nat.le_of_ble_eq_true rfl) (2, 12) rfl ?_
      refine z_aload_n C dX11_go_8 9 rfl 0 rfl rfl ?_
      obtain ⟨v9, hv9, hf⟩ := x_bind hf
      refine z_getR C dX11_go_9 12 rfl hv9 cl10 rfl w523 ?_
      refine z_aload_n C dX11_go_12 13 rfl 0 rfl rfl ?_
      obtain ⟨v13, hv13, hf⟩ := x_bind hf
      refine z_getR C dX11_go_13 16 rfl hv13 cl10 rfl w518 ?_
      obtain ⟨v16, hv16, hf⟩ := x_bind hf
      refine z_getR C dX11_go_16 19 rfl hv16 cl2 rfl w241 ?_
      refine z_iload_n C dX11_go_19 20 rfl 1 rfl rfl ?_
      obtain ⟨v20, hv20, hf⟩ := x_bind hf
      refine z_laload C dX11_go_20 21 rfl hv20 ?_
      refine z_iload_n C dX11_go_21 22 rfl 2 rfl rfl ?_
      obtain ⟨o22, ho22, hf⟩ := x_bind hf
      obtain ⟨w22, hw22, hf⟩ := x_bind hf
      refine z_callVl C dX11_go_22 25 rfl ho22 cl9.1 rfl (cX9_runFromc hw22) kX9_runFrom kvX9_runFrom w655 ⟨rfl, rfl⟩ ⟨Nat.le_of_ble_eq_true rfl, Nat.le_of_ble_eq_true rfl⟩ ⟨Nat.le_of_ble_eq_true rfl, Nat.le_of_ble_eq_true rfl⟩ rfl rfl (Nat.le_of_ble_eq_true rfl) ?_
      refine z_pop2 C dX11_go_25 26 rfl rfl ?_
      refine z_aload_n C dX11_go_26 27 rfl 0 rfl rfl ?_
      obtain ⟨v27, hv27, hf⟩ := x_bind hf
      refine z_getR C dX11_go_27 30 rfl hv27 cl10 rfl w518 ?_
      obtain ⟨v30, hv30, hf⟩ := x_bind hf
      refine z_getR C dX11_go_30 33 rfl hv30 cl2 rfl w244 ?_
      refine z_iload_n C dX11_go_33 34 rfl 1 rfl rfl ?_
      obtain ⟨v34, hv34, hf⟩ := x_bind hf
      refine z_iaload C dX11_go_34 35 rfl hv34 ?_
      refine z_aload_n C dX11_go_35 36 rfl 0 rfl rfl ?_
      obtain ⟨v36, hv36, hf⟩ := x_bind hf
      refine z_getR C dX11_go_36 39 rfl hv36 cl10 rfl w523 ?_
      obtain ⟨v39, hv39, hf⟩ := x_bind hf
      refine z_getI C dX11_go_39 42 rfl hv39 cl9 rfl w317 ?_
      refine z_iadd C dX11_go_42 43 rfl ?_
      refine z_bipush C dX11_go_43 45 rfl 40 (by decide) ?_
      refine z_icmp_le C dX11_go_45 50 (by decide) 48 rfl (fun hc => ?_) (fun hc => ?_)
      · have hf := (if_pos hc).symm.trans hf
        refine z_aload_n C dX11_go_50 51 rfl 0 rfl rfl ?_
        obtain ⟨v51, hv51, hf⟩ := x_bind hf
        refine z_getR C dX11_go_51 54 rfl hv51 cl10 rfl w521 ?_
        refine z_aload_n C dX11_go_54 55 rfl 0 rfl rfl ?_
        obtain ⟨v55, hv55, hf⟩ := x_bind hf
        refine z_getR C dX11_go_55 58 rfl hv55 cl10 rfl w518 ?_
        obtain ⟨o58, ho58, hf⟩ := x_bind hf
        obtain ⟨w58, hw58, hf⟩ := x_bind hf
        refine z_callVv C dX11_go_58 61 rfl ho58 cl0.1 rfl (cX0_keepc hw58) kX0_keep kvX0_keep w618 ⟨rfl, rfl⟩ ⟨Nat.le_of_ble_eq_true rfl, Nat.le_of_ble_eq_true rfl⟩ ⟨Nat.le_of_ble_eq_true rfl, Nat.le_of_ble_eq_true rfl⟩ rfl rfl (Nat.le_of_ble_eq_true rfl) ?_
        refine z_iconst C dX11_go_61 62 rfl 0 (by decide) ?_
        refine z_istore_n C dX11_go_62 63 rfl rfl rfl [(3, .int (0)), (0, .ref (x0)), (1, .int (x1)), (2, .int (x2))] rfl ?_
        obtain ⟨b63, hb63, hf⟩ := x_bind hf
        refine z_lv [1, 2, 0] (lv' := [(0, .ref (x0)), (1, .int (x1)), (3, .int (0))]) rfl ?_
        refine lpX11_go_63 C O hb63 (fun s63 e63 => ?_)
        subst e63
        refine z_aload_n C dX11_go_97 98 rfl 0 rfl rfl ?_
        obtain ⟨v98, hv98, hf⟩ := x_bind hf
        refine z_getR C dX11_go_98 101 rfl hv98 cl10 rfl w523 ?_
        obtain ⟨v101, hv101, hf⟩ := x_bind hf
        refine z_getI C dX11_go_101 104 rfl hv101 cl9 rfl w317 ?_
        exact z_iret C (hE _ (Option.some.inj hf).symm) ⟨Nat.le_of_ble_eq_true rfl, Nat.le_of_ble_eq_true rfl⟩ dX11_go_104
      · have hf := (if_neg hc).symm.trans hf
        refine z_iconst C dX11_go_48 49 rfl (-1) (by decide) ?_
        exact z_iret C (hE _ (Option.some.inj hf).symm) ⟨Nat.le_of_ble_eq_true rfl, Nat.le_of_ble_eq_true rfl⟩ dX11_go_49
    | inr E5 =>
      dsimp only at hf
      exact z_cSt C O dX11_go_5 (cX11_needWayc O.1 hw5) kX11_needWay ksX11_needWay w1232 ⟨rfl, rfl⟩ ⟨Nat.le_of_ble_eq_true rfl, Nat.le_of_ble_eq_true rfl⟩ ⟨Nat.le_of_ble_eq_true rfl, Nat.le_of_ble_eq_true rfl⟩ rfl rfl (Nat.le_of_ble_eq_true rfl) ⟨Nat.le_of_ble_eq_true rfl, Nat.le_of_ble_eq_true rfl⟩ (hE _ (Option.some.inj hf).symm)
  | inr E1 =>
    dsimp only at hf
    exact z_cSt C O dX11_go_1 (cX11_needPlacec O.1 hw1) kX11_needPlace ksX11_needPlace w1111 ⟨rfl, rfl⟩ ⟨Nat.le_of_ble_eq_true rfl, Nat.le_of_ble_eq_true rfl⟩ ⟨Nat.le_of_ble_eq_true rfl, Nat.le_of_ble_eq_true rfl⟩ rfl rfl (Nat.le_of_ble_eq_true rfl) ⟨Nat.le_of_ble_eq_true rfl, Nat.le_of_ble_eq_true rfl⟩ (hE _ (Option.some.inj hf).symm)
theorem dX11_head_0 : decode cX11_head 0 = .ok (.aload_n 0, 1) := by decide +kernel
theorem dX11_head_1 : decode cX11_head 1 = .ok (.iload_n 1, 1) := by decide +kernel
theorem dX11_head_2 : decode cX11_head 2 = .ok (.invokevirtual 173, 3) := by decide +kernel
theorem dX11_head_5 : decode cX11_head 5 = .ok (.iload_n 3, 1) := by decide +kernel
theorem dX11_head_6 : decode cX11_head 6 = .ok (.invokestatic 176, 3) := by decide +kernel
theorem dX11_head_9 : decode cX11_head 9 = .ok (.aload_n 0, 1) := by decide +kernel
theorem dX11_head_10 : decode cX11_head 10 = .ok (.getfield 97, 3) := by decide +kernel
theorem dX11_head_13 : decode cX11_head 13 = .ok (.aload_n 0, 1) := by decide +kernel
theorem dX11_head_14 : decode cX11_head 14 = .ok (.getfield 23, 3) := by decide +kernel
theorem dX11_head_17 : decode cX11_head 17 = .ok (.getfield 52, 3) := by decide +kernel
theorem dX11_head_20 : decode cX11_head 20 = .ok (.getfield 183, 3) := by decide +kernel
theorem dX11_head_23 : decode cX11_head 23 = .ok (.iload_n 1, 1) := by decide +kernel
theorem dX11_head_24 : decode cX11_head 24 = .ok (.laload, 1) := by decide +kernel
theorem dX11_head_25 : decode cX11_head 25 = .ok (.aload_n 0, 1) := by decide +kernel
theorem dX11_head_26 : decode cX11_head 26 = .ok (.getfield 23, 3) := by decide +kernel
theorem dX11_head_29 : decode cX11_head 29 = .ok (.getfield 52, 3) := by decide +kernel
theorem dX11_head_32 : decode cX11_head 32 = .ok (.getfield 179, 3) := by decide +kernel
theorem dX11_head_35 : decode cX11_head 35 = .ok (.iload_n 1, 1) := by decide +kernel
theorem dX11_head_36 : decode cX11_head 36 = .ok (.laload, 1) := by decide +kernel
theorem dX11_head_37 : decode cX11_head 37 = .ok (.invokevirtual 359, 3) := by decide +kernel
theorem dX11_head_40 : decode cX11_head 40 = .ok (.iload_n 2, 1) := by decide +kernel
theorem dX11_head_41 : decode cX11_head 41 = .ok (.ifCond .eq 13, 3) := by decide +kernel
theorem dX11_head_44 : decode cX11_head 44 = .ok (.aload_n 0, 1) := by decide +kernel
theorem dX11_head_45 : decode cX11_head 45 = .ok (.getfield 97, 3) := by decide +kernel
theorem dX11_head_48 : decode cX11_head 48 = .ok (.getfield 363, 3) := by decide +kernel
theorem dX11_head_51 : decode cX11_head 51 = .ok (.goto 10, 3) := by decide +kernel
theorem dX11_head_54 : decode cX11_head 54 = .ok (.aload_n 0, 1) := by decide +kernel
theorem dX11_head_55 : decode cX11_head 55 = .ok (.getfield 97, 3) := by decide +kernel
theorem dX11_head_58 : decode cX11_head 58 = .ok (.getfield 366, 3) := by decide +kernel
theorem dX11_head_61 : decode cX11_head 61 = .ok (.iload_n 3, 1) := by decide +kernel
theorem dX11_head_62 : decode cX11_head 62 = .ok (.invokestatic 186, 3) := by decide +kernel
theorem dX11_head_65 : decode cX11_head 65 = .ok (.ireturn, 1) := by decide +kernel
abbrev rmX11_head : Room := { frames := 8, cells := 2, slots := 12, locals := 141 }
noncomputable def fX11_head (σ : St) (x0 : Nat) (x1 : Int32) (x2 : Int32) (x3 : Int32) : Option ((Int32 ⊕ String) × St) :=
(isO σ x0 10).bind fun _ =>
(fX11_needRule σ x0 x1).bind fun w2 =>
(match w2 with
| (Sum.inl _, σ2) =>
(fX11_needIndex σ2 x3).bind fun w6 =>
(match w6 with
| (Sum.inl _, σ6) =>
(gR σ6 x0 10 14).bind fun v10 =>
(gR σ6 x0 10 3).bind fun v14 =>
(gR σ6 v14 2 0).bind fun v17 =>
(gR σ6 v17 8 2).bind fun v20 =>
(aL σ6 v20 x1).bind fun v24 =>
(gR σ6 x0 10 3).bind fun v26 =>
(gR σ6 v26 2 0).bind fun v29 =>
(gR σ6 v29 8 3).bind fun v32 =>
(aL σ6 v32 x1).bind fun v36 =>
(isO σ6 v10 4).bind fun _ =>
(fX4_findOf σ6 v10 v24 v36).bind fun w37 =>
if x2 = 0 then
((gR w37 x0 10 14).bind fun v55 =>
(gL w37 v55 4 2).bind fun v58 =>
(fX10_letterOf v58 x3).bind fun w62 =>
some (Sum.inl w62, w37))
else
((gR w37 x0 10 14).bind fun v45 =>
(gL w37 v45 4 3).bind fun v48 =>
(fX10_letterOf v48 x3).bind fun w62 =>
some (Sum.inl w62, w37))
| (Sum.inr E6, σ6) =>
some (Sum.inr E6, σ6))
| (Sum.inr E2, σ2) =>
some (Sum.inr E2, σ2))
set_option maxHeartbeats 4000000 in
set_option maxRecDepth 100000 in
theorem cX11_headc {l : Launch} (hst : l.stackTraces = false) {adK adV : Nat → Nat} {G : xG} {A : Nat → Prop} {σ : St} {x0 : Nat} {x1 : Int32} {x2 : Int32} {x3 : Int32} {c : (Int32 ⊕ String) × St} (hf : fX11_head σ x0 x1 x2 x3 = some c) : ConX l yX11_head (xws yX11_head cX11_head 4 (some .int)) rmX11_head 2 12 [.ref (x0), .int (x1), .int (x2), .int (x3)] adK adV G A σ (xoI c.1) c.2 := by
  refine z_start hst rfl (Nat.le_of_ble_eq_true rfl) (fun X _ _ _ C O hE0 => ?_)
  have hE : ∀ r, c = r → zE X 2 12 (xoI r.1) r.2 := fun r e => e ▸ hE0
  show Vz X (0, 0) σ 0 [(0, .ref (x0)), (1, .int (x1)), (2, .int (x2)), (3, .int (x3))] []
  unfold fX11_head at hf
  refine z_aload_n C dX11_head_0 1 rfl 0 rfl rfl ?_
  refine z_iload_n C dX11_head_1 2 rfl 1 rfl rfl ?_
  obtain ⟨o2, ho2, hf⟩ := x_bind hf
  obtain ⟨⟨r2, σ2⟩, hw2, hf⟩ := x_bind hf
  cases r2 with
  | inl _ =>
    dsimp only at hf
    refine z_cVn C O.2.2 dX11_head_2 5 rfl ho2 cl10.1 rfl (cX11_needRulec O.1 hw2) kX11_needRule kvX11_needRule w1049 ⟨rfl, rfl⟩ ⟨Nat.le_of_ble_eq_true rfl, Nat.le_of_ble_eq_true rfl⟩ ⟨Nat.le_of_ble_eq_true rfl, Nat.le_of_ble_eq_true rfl⟩ rfl rfl (Nat.le_of_ble_eq_true rfl) (1, 6) rfl ?_
    refine z_iload_n C dX11_head_5 6 rfl 3 rfl rfl ?_
    obtain ⟨⟨r6, σ6⟩, hw6, hf⟩ := x_bind hf
    cases r6 with
    | inl _ =>
      dsimp only at hf
      refine z_cSn C O.2.2 dX11_head_6 9 rfl (cX11_needIndexc O.1 hw6) kX11_needIndex ksX11_needIndex w1054 ⟨rfl, rfl⟩ ⟨Nat.le_of_ble_eq_true rfl, Nat.le_of_ble_eq_true rfl⟩ ⟨Nat.le_of_ble_eq_true rfl, Nat.le_of_ble_eq_true rfl⟩ rfl rfl (Nat.le_of_ble_eq_true rfl) (2, 12) rfl ?_
      refine z_aload_n C dX11_head_9 10 rfl 0 rfl rfl ?_
      obtain ⟨v10, hv10, hf⟩ := x_bind hf
      refine z_getR C dX11_head_10 13 rfl hv10 cl10 rfl w529 ?_
      refine z_aload_n C dX11_head_13 14 rfl 0 rfl rfl ?_
      obtain ⟨v14, hv14, hf⟩ := x_bind hf
      refine z_getR C dX11_head_14 17 rfl hv14 cl10 rfl w518 ?_
      obtain ⟨v17, hv17, hf⟩ := x_bind hf
      refine z_getR C dX11_head_17 20 rfl hv17 cl2 rfl w235 ?_
      obtain ⟨v20, hv20, hf⟩ := x_bind hf
      refine z_getR C dX11_head_20 23 rfl hv20 cl8 rfl w195 ?_
      refine z_iload_n C dX11_head_23 24 rfl 1 rfl rfl ?_
      obtain ⟨v24, hv24, hf⟩ := x_bind hf
      refine z_laload C dX11_head_24 25 rfl hv24 ?_
      refine z_aload_n C dX11_head_25 26 rfl 0 rfl rfl ?_
      obtain ⟨v26, hv26, hf⟩ := x_bind hf
      refine z_getR C dX11_head_26 29 rfl hv26 cl10 rfl w518 ?_
      obtain ⟨v29, hv29, hf⟩ := x_bind hf
      refine z_getR C dX11_head_29 32 rfl hv29 cl2 rfl w235 ?_
      obtain ⟨v32, hv32, hf⟩ := x_bind hf
      refine z_getR C dX11_head_32 35 rfl hv32 cl8 rfl w201 ?_
      refine z_iload_n C dX11_head_35 36 rfl 1 rfl rfl ?_
      obtain ⟨v36, hv36, hf⟩ := x_bind hf
      refine z_laload C dX11_head_36 37 rfl hv36 ?_
      obtain ⟨o37, ho37, hf⟩ := x_bind hf
      obtain ⟨w37, hw37, hf⟩ := x_bind hf
      refine z_callVv C dX11_head_37 40 rfl ho37 cl4.1 rfl (cX4_findOfc hw37) kX4_findOf kvX4_findOf w1331 ⟨rfl, rfl⟩ ⟨Nat.le_of_ble_eq_true rfl, Nat.le_of_ble_eq_true rfl⟩ ⟨Nat.le_of_ble_eq_true rfl, Nat.le_of_ble_eq_true rfl⟩ rfl rfl (Nat.le_of_ble_eq_true rfl) ?_
      refine z_iload_n C dX11_head_40 41 rfl 2 rfl rfl ?_
      refine z_if_eq C dX11_head_41 54 (by decide) 44 rfl (fun hc => ?_) (fun hc => ?_)
      · have hf := (if_pos hc).symm.trans hf
        refine z_aload_n C dX11_head_54 55 rfl 0 rfl rfl ?_
        obtain ⟨v55, hv55, hf⟩ := x_bind hf
        refine z_getR C dX11_head_55 58 rfl hv55 cl10 rfl w529 ?_
        obtain ⟨v58, hv58, hf⟩ := x_bind hf
        refine z_getL C dX11_head_58 61 rfl hv58 cl4 rfl w439 ?_
        refine z_iload_n C dX11_head_61 62 rfl 3 rfl rfl ?_
        obtain ⟨w62, hw62, hf⟩ := x_bind hf
        refine z_callSi C dX11_head_62 65 rfl (cX10_letterOfc hw62) kX10_letterOf ksX10_letterOf w725 ⟨rfl, rfl⟩ ⟨Nat.le_of_ble_eq_true rfl, Nat.le_of_ble_eq_true rfl⟩ ⟨Nat.le_of_ble_eq_true rfl, Nat.le_of_ble_eq_true rfl⟩ rfl rfl (Nat.le_of_ble_eq_true rfl) ?_
        exact z_iret C (hE _ (Option.some.inj hf).symm) ⟨Nat.le_of_ble_eq_true rfl, Nat.le_of_ble_eq_true rfl⟩ dX11_head_65
      · have hf := (if_neg hc).symm.trans hf
        refine z_aload_n C dX11_head_44 45 rfl 0 rfl rfl ?_
        obtain ⟨v45, hv45, hf⟩ := x_bind hf
        refine z_getR C dX11_head_45 48 rfl hv45 cl10 rfl w529 ?_
        obtain ⟨v48, hv48, hf⟩ := x_bind hf
        refine z_getL C dX11_head_48 51 rfl hv48 cl4 rfl w441 ?_
        refine z_goto C dX11_head_51 61 (by decide) ?_
        refine z_iload_n C dX11_head_61 62 rfl 3 rfl rfl ?_
        obtain ⟨w62, hw62, hf⟩ := x_bind hf
        refine z_callSi C dX11_head_62 65 rfl (cX10_letterOfc hw62) kX10_letterOf ksX10_letterOf w725 ⟨rfl, rfl⟩ ⟨Nat.le_of_ble_eq_true rfl, Nat.le_of_ble_eq_true rfl⟩ ⟨Nat.le_of_ble_eq_true rfl, Nat.le_of_ble_eq_true rfl⟩ rfl rfl (Nat.le_of_ble_eq_true rfl) ?_
        exact z_iret C (hE _ (Option.some.inj hf).symm) ⟨Nat.le_of_ble_eq_true rfl, Nat.le_of_ble_eq_true rfl⟩ dX11_head_65
    | inr E6 =>
      dsimp only at hf
      exact z_cSt C O dX11_head_6 (cX11_needIndexc O.1 hw6) kX11_needIndex ksX11_needIndex w1054 ⟨rfl, rfl⟩ ⟨Nat.le_of_ble_eq_true rfl, Nat.le_of_ble_eq_true rfl⟩ ⟨Nat.le_of_ble_eq_true rfl, Nat.le_of_ble_eq_true rfl⟩ rfl rfl (Nat.le_of_ble_eq_true rfl) ⟨Nat.le_of_ble_eq_true rfl, Nat.le_of_ble_eq_true rfl⟩ (hE _ (Option.some.inj hf).symm)
  | inr E2 =>
    dsimp only at hf
    exact z_cVt C O dX11_head_2 ho2 cl10.1 rfl (cX11_needRulec O.1 hw2) kX11_needRule kvX11_needRule w1049 ⟨rfl, rfl⟩ ⟨Nat.le_of_ble_eq_true rfl, Nat.le_of_ble_eq_true rfl⟩ ⟨Nat.le_of_ble_eq_true rfl, Nat.le_of_ble_eq_true rfl⟩ rfl rfl (Nat.le_of_ble_eq_true rfl) ⟨Nat.le_of_ble_eq_true rfl, Nat.le_of_ble_eq_true rfl⟩ (hE _ (Option.some.inj hf).symm)
theorem dX11_letter_0 : decode cX11_letter 0 = .ok (.iload_n 1, 1) := by decide +kernel
theorem dX11_letter_1 : decode cX11_letter 1 = .ok (.ifCond .lt 17, 3) := by decide +kernel
theorem dX11_letter_4 : decode cX11_letter 4 = .ok (.iload_n 1, 1) := by decide +kernel
theorem dX11_letter_5 : decode cX11_letter 5 = .ok (.aload_n 0, 1) := by decide +kernel
theorem dX11_letter_6 : decode cX11_letter 6 = .ok (.getfield 23, 3) := by decide +kernel
theorem dX11_letter_9 : decode cX11_letter 9 = .ok (.getfield 52, 3) := by decide +kernel
theorem dX11_letter_12 : decode cX11_letter 12 = .ok (.getfield 151, 3) := by decide +kernel
theorem dX11_letter_15 : decode cX11_letter 15 = .ok (.if_icmp .lt 13, 3) := by decide +kernel
theorem dX11_letter_18 : decode cX11_letter 18 = .ok (.new 166, 3) := by decide +kernel
theorem dX11_letter_21 : decode cX11_letter 21 = .ok (.dup, 1) := by decide +kernel
theorem dX11_letter_22 : decode cX11_letter 22 = .ok (.ldc 192, 2) := by decide +kernel
theorem dX11_letter_24 : decode cX11_letter 24 = .ok (.invokespecial 170, 3) := by decide +kernel
theorem dX11_letter_27 : decode cX11_letter 27 = .ok (.athrow, 1) := by decide +kernel
theorem dX11_letter_28 : decode cX11_letter 28 = .ok (.iload_n 2, 1) := by decide +kernel
theorem dX11_letter_29 : decode cX11_letter 29 = .ok (.iconst 2, 1) := by decide +kernel
theorem dX11_letter_30 : decode cX11_letter 30 = .ok (.invokestatic 194, 3) := by decide +kernel
theorem dX11_letter_33 : decode cX11_letter 33 = .ok (.iload_n 2, 1) := by decide +kernel
theorem dX11_letter_34 : decode cX11_letter 34 = .ok (.ifCond .ne 16, 3) := by decide +kernel
theorem dX11_letter_37 : decode cX11_letter 37 = .ok (.aload_n 0, 1) := by decide +kernel
theorem dX11_letter_38 : decode cX11_letter 38 = .ok (.getfield 23, 3) := by decide +kernel
theorem dX11_letter_41 : decode cX11_letter 41 = .ok (.getfield 52, 3) := by decide +kernel
theorem dX11_letter_44 : decode cX11_letter 44 = .ok (.getfield 198, 3) := by decide +kernel
theorem dX11_letter_47 : decode cX11_letter 47 = .ok (.iload_n 1, 1) := by decide +kernel
theorem dX11_letter_48 : decode cX11_letter 48 = .ok (.iaload, 1) := by decide +kernel
theorem dX11_letter_49 : decode cX11_letter 49 = .ok (.ireturn, 1) := by decide +kernel
theorem dX11_letter_50 : decode cX11_letter 50 = .ok (.iload_n 2, 1) := by decide +kernel
theorem dX11_letter_51 : decode cX11_letter 51 = .ok (.iconst 1, 1) := by decide +kernel
theorem dX11_letter_52 : decode cX11_letter 52 = .ok (.if_icmp .ne 18, 3) := by decide +kernel
theorem dX11_letter_55 : decode cX11_letter 55 = .ok (.aload_n 0, 1) := by decide +kernel
theorem dX11_letter_56 : decode cX11_letter 56 = .ok (.getfield 23, 3) := by decide +kernel
theorem dX11_letter_59 : decode cX11_letter 59 = .ok (.getfield 52, 3) := by decide +kernel
theorem dX11_letter_62 : decode cX11_letter 62 = .ok (.getfield 201, 3) := by decide +kernel
theorem dX11_letter_65 : decode cX11_letter 65 = .ok (.iload_n 1, 1) := by decide +kernel
theorem dX11_letter_66 : decode cX11_letter 66 = .ok (.iaload, 1) := by decide +kernel
theorem dX11_letter_67 : decode cX11_letter 67 = .ok (.goto 14, 3) := by decide +kernel
theorem dX11_letter_70 : decode cX11_letter 70 = .ok (.aload_n 0, 1) := by decide +kernel
theorem dX11_letter_71 : decode cX11_letter 71 = .ok (.getfield 23, 3) := by decide +kernel
theorem dX11_letter_74 : decode cX11_letter 74 = .ok (.getfield 52, 3) := by decide +kernel
theorem dX11_letter_77 : decode cX11_letter 77 = .ok (.iload_n 1, 1) := by decide +kernel
theorem dX11_letter_78 : decode cX11_letter 78 = .ok (.invokevirtual 204, 3) := by decide +kernel
theorem dX11_letter_81 : decode cX11_letter 81 = .ok (.ireturn, 1) := by decide +kernel
abbrev rmX11_letter : Room := { frames := 8, cells := 1, slots := 6, locals := 141 }
noncomputable def fX11_letter (σ : St) (x0 : Nat) (x1 : Int32) (x2 : Int32) : Option ((Int32 ⊕ String) × St) :=
if x1 < 0 then
(some (Sum.inr xNSE, σ))
else
((gR σ x0 10 3).bind fun v6 =>
(gR σ v6 2 0).bind fun v9 =>
(gI σ v9 8 0).bind fun v12 =>
if x1 < v12 then
((fX11_needWhat σ x2 2).bind fun w30 =>
(match w30 with
| (Sum.inl _, σ30) =>
if x2 = 0 then
((gR σ30 x0 10 3).bind fun v38 =>
(gR σ30 v38 2 0).bind fun v41 =>
(gR σ30 v41 8 4).bind fun v44 =>
(aI σ30 v44 0 x1).bind fun v48 =>
some (Sum.inl v48, σ30))
else
(if x2 = ((1 : Int32)) then
((gR σ30 x0 10 3).bind fun v56 =>
(gR σ30 v56 2 0).bind fun v59 =>
(gR σ30 v59 8 5).bind fun v62 =>
(aI σ30 v62 0 x1).bind fun v66 =>
some (Sum.inl v66, σ30))
else
((gR σ30 x0 10 3).bind fun v71 =>
(gR σ30 v71 2 0).bind fun v74 =>
(isO σ30 v74 8).bind fun _ =>
(fX8_leastOf σ30 v74 x1).bind fun w78 =>
some (Sum.inl w78.1, w78.2)))
| (Sum.inr E30, σ30) =>
some (Sum.inr E30, σ30)))
else
(some (Sum.inr xNSE, σ)))
set_option maxHeartbeats 4000000 in
set_option maxRecDepth 100000 in
theorem cX11_letterc {l : Launch} (hst : l.stackTraces = false) {adK adV : Nat → Nat} {G : xG} {A : Nat → Prop} {σ : St} {x0 : Nat} {x1 : Int32} {x2 : Int32} {c : (Int32 ⊕ String) × St} (hf : fX11_letter σ x0 x1 x2 = some c) : ConX l yX11_letter (xws yX11_letter cX11_letter 3 (some .int)) rmX11_letter 1 6 [.ref (x0), .int (x1), .int (x2)] adK adV G A σ (xoI c.1) c.2 := by
  refine z_start hst rfl (Nat.le_of_ble_eq_true rfl) (fun X _ _ _ C O hE0 => ?_)
  have hE : ∀ r, c = r → zE X 1 6 (xoI r.1) r.2 := fun r e => e ▸ hE0
  show Vz X (0, 0) σ 0 [(0, .ref (x0)), (1, .int (x1)), (2, .int (x2))] []
  unfold fX11_letter at hf
  refine z_iload_n C dX11_letter_0 1 rfl 1 rfl rfl ?_
  refine z_if_lt C dX11_letter_1 18 (by decide) 4 rfl (fun hc => ?_) (fun hc => ?_)
  · have hf := (if_pos hc).symm.trans hf
    exact z_nseS C O fitNSE w1026 w152 hatNSE goodNSE (List.mem_of_getElem? (i := 1) rfl) dX11_letter_18 dX11_letter_21 dX11_letter_22 dX11_letter_24 dX11_letter_27 ⟨Nat.le_of_ble_eq_true rfl, Nat.le_of_ble_eq_true rfl⟩ ⟨Nat.le_of_ble_eq_true rfl, Nat.le_of_ble_eq_true rfl⟩ ⟨Nat.le_of_ble_eq_true rfl, Nat.le_of_ble_eq_true rfl⟩ (hE _ (Option.some.inj hf).symm)
  · have hf := (if_neg hc).symm.trans hf
    refine z_iload_n C dX11_letter_4 5 rfl 1 rfl rfl ?_
    refine z_aload_n C dX11_letter_5 6 rfl 0 rfl rfl ?_
    obtain ⟨v6, hv6, hf⟩ := x_bind hf
    refine z_getR C dX11_letter_6 9 rfl hv6 cl10 rfl w518 ?_
    obtain ⟨v9, hv9, hf⟩ := x_bind hf
    refine z_getR C dX11_letter_9 12 rfl hv9 cl2 rfl w235 ?_
    obtain ⟨v12, hv12, hf⟩ := x_bind hf
    refine z_getI C dX11_letter_12 15 rfl hv12 cl8 rfl w180 ?_
    refine z_icmp_lt C dX11_letter_15 28 (by decide) 18 rfl (fun hc => ?_) (fun hc => ?_)
    · have hf := (if_pos hc).symm.trans hf
      refine z_iload_n C dX11_letter_28 29 rfl 2 rfl rfl ?_
      refine z_iconst C dX11_letter_29 30 rfl 2 (by decide) ?_
      obtain ⟨⟨r30, σ30⟩, hw30, hf⟩ := x_bind hf
      cases r30 with
      | inl _ =>
        dsimp only at hf
        refine z_cSn C O.2.2 dX11_letter_30 33 rfl (cX11_needWhatc O.1 hw30) kX11_needWhat ksX11_needWhat w1066 ⟨rfl, rfl⟩ ⟨Nat.le_of_ble_eq_true rfl, Nat.le_of_ble_eq_true rfl⟩ ⟨Nat.le_of_ble_eq_true rfl, Nat.le_of_ble_eq_true rfl⟩ rfl rfl (Nat.le_of_ble_eq_true rfl) (1, 6) rfl ?_
        refine z_iload_n C dX11_letter_33 34 rfl 2 rfl rfl ?_
        refine z_if_ne C dX11_letter_34 50 (by decide) 37 rfl (fun hc => ?_) (fun hc => ?_)
        · have hf := (if_neg hc).symm.trans hf
          refine z_iload_n C dX11_letter_50 51 rfl 2 rfl rfl ?_
          refine z_iconst C dX11_letter_51 52 rfl 1 (by decide) ?_
          refine z_icmp_ne C dX11_letter_52 70 (by decide) 55 rfl (fun hc => ?_) (fun hc => ?_)
          · have hf := (if_neg hc).symm.trans hf
            refine z_aload_n C dX11_letter_70 71 rfl 0 rfl rfl ?_
            obtain ⟨v71, hv71, hf⟩ := x_bind hf
            refine z_getR C dX11_letter_71 74 rfl hv71 cl10 rfl w518 ?_
            obtain ⟨v74, hv74, hf⟩ := x_bind hf
            refine z_getR C dX11_letter_74 77 rfl hv74 cl2 rfl w235 ?_
            refine z_iload_n C dX11_letter_77 78 rfl 1 rfl rfl ?_
            obtain ⟨o78, ho78, hf⟩ := x_bind hf
            obtain ⟨w78, hw78, hf⟩ := x_bind hf
            refine z_callVi C dX11_letter_78 81 rfl ho78 cl8.1 rfl (cX8_leastOfc hw78) kX8_leastOf kvX8_leastOf w1070 ⟨rfl, rfl⟩ ⟨Nat.le_of_ble_eq_true rfl, Nat.le_of_ble_eq_true rfl⟩ ⟨Nat.le_of_ble_eq_true rfl, Nat.le_of_ble_eq_true rfl⟩ rfl rfl (Nat.le_of_ble_eq_true rfl) ?_
            exact z_iret C (hE _ (Option.some.inj hf).symm) ⟨Nat.le_of_ble_eq_true rfl, Nat.le_of_ble_eq_true rfl⟩ dX11_letter_81
          · have hf := (if_pos hc).symm.trans hf
            refine z_aload_n C dX11_letter_55 56 rfl 0 rfl rfl ?_
            obtain ⟨v56, hv56, hf⟩ := x_bind hf
            refine z_getR C dX11_letter_56 59 rfl hv56 cl10 rfl w518 ?_
            obtain ⟨v59, hv59, hf⟩ := x_bind hf
            refine z_getR C dX11_letter_59 62 rfl hv59 cl2 rfl w235 ?_
            obtain ⟨v62, hv62, hf⟩ := x_bind hf
            refine z_getR C dX11_letter_62 65 rfl hv62 cl8 rfl w207 ?_
            refine z_iload_n C dX11_letter_65 66 rfl 1 rfl rfl ?_
            obtain ⟨v66, hv66, hf⟩ := x_bind hf
            refine z_iaload C dX11_letter_66 67 rfl hv66 ?_
            refine z_goto C dX11_letter_67 81 (by decide) ?_
            exact z_iret C (hE _ (Option.some.inj hf).symm) ⟨Nat.le_of_ble_eq_true rfl, Nat.le_of_ble_eq_true rfl⟩ dX11_letter_81
        · have hf := (if_pos hc).symm.trans hf
          refine z_aload_n C dX11_letter_37 38 rfl 0 rfl rfl ?_
          obtain ⟨v38, hv38, hf⟩ := x_bind hf
          refine z_getR C dX11_letter_38 41 rfl hv38 cl10 rfl w518 ?_
          obtain ⟨v41, hv41, hf⟩ := x_bind hf
          refine z_getR C dX11_letter_41 44 rfl hv41 cl2 rfl w235 ?_
          obtain ⟨v44, hv44, hf⟩ := x_bind hf
          refine z_getR C dX11_letter_44 47 rfl hv44 cl8 rfl w204 ?_
          refine z_iload_n C dX11_letter_47 48 rfl 1 rfl rfl ?_
          obtain ⟨v48, hv48, hf⟩ := x_bind hf
          refine z_iaload C dX11_letter_48 49 rfl hv48 ?_
          exact z_iret C (hE _ (Option.some.inj hf).symm) ⟨Nat.le_of_ble_eq_true rfl, Nat.le_of_ble_eq_true rfl⟩ dX11_letter_49
      | inr E30 =>
        dsimp only at hf
        exact z_cSt C O dX11_letter_30 (cX11_needWhatc O.1 hw30) kX11_needWhat ksX11_needWhat w1066 ⟨rfl, rfl⟩ ⟨Nat.le_of_ble_eq_true rfl, Nat.le_of_ble_eq_true rfl⟩ ⟨Nat.le_of_ble_eq_true rfl, Nat.le_of_ble_eq_true rfl⟩ rfl rfl (Nat.le_of_ble_eq_true rfl) ⟨Nat.le_of_ble_eq_true rfl, Nat.le_of_ble_eq_true rfl⟩ (hE _ (Option.some.inj hf).symm)
    · have hf := (if_neg hc).symm.trans hf
      exact z_nseS C O fitNSE w1026 w152 hatNSE goodNSE (List.mem_of_getElem? (i := 1) rfl) dX11_letter_18 dX11_letter_21 dX11_letter_22 dX11_letter_24 dX11_letter_27 ⟨Nat.le_of_ble_eq_true rfl, Nat.le_of_ble_eq_true rfl⟩ ⟨Nat.le_of_ble_eq_true rfl, Nat.le_of_ble_eq_true rfl⟩ ⟨Nat.le_of_ble_eq_true rfl, Nat.le_of_ble_eq_true rfl⟩ (hE _ (Option.some.inj hf).symm)
theorem dX11_made_0 : decode cX11_made 0 = .ok (.iload_n 1, 1) := by decide +kernel
theorem dX11_made_1 : decode cX11_made 1 = .ok (.invokestatic 229, 3) := by decide +kernel
theorem dX11_made_4 : decode cX11_made 4 = .ok (.iload_n 2, 1) := by decide +kernel
theorem dX11_made_5 : decode cX11_made 5 = .ok (.aload_n 0, 1) := by decide +kernel
theorem dX11_made_6 : decode cX11_made 6 = .ok (.getfield 23, 3) := by decide +kernel
theorem dX11_made_9 : decode cX11_made 9 = .ok (.getfield 263, 3) := by decide +kernel
theorem dX11_made_12 : decode cX11_made 12 = .ok (.iload_n 1, 1) := by decide +kernel
theorem dX11_made_13 : decode cX11_made 13 = .ok (.iaload, 1) := by decide +kernel
theorem dX11_made_14 : decode cX11_made 14 = .ok (.invokestatic 297, 3) := by decide +kernel
theorem dX11_made_17 : decode cX11_made 17 = .ok (.iload_n 3, 1) := by decide +kernel
theorem dX11_made_18 : decode cX11_made 18 = .ok (.iconst 4, 1) := by decide +kernel
theorem dX11_made_19 : decode cX11_made 19 = .ok (.invokestatic 194, 3) := by decide +kernel
theorem dX11_made_22 : decode cX11_made 22 = .ok (.aload_n 0, 1) := by decide +kernel
theorem dX11_made_23 : decode cX11_made 23 = .ok (.getfield 109, 3) := by decide +kernel
theorem dX11_made_26 : decode cX11_made 26 = .ok (.iload_n 1, 1) := by decide +kernel
theorem dX11_made_27 : decode cX11_made 27 = .ok (.invokevirtual 266, 3) := by decide +kernel
theorem dX11_made_30 : decode cX11_made 30 = .ok (.iload_n 3, 1) := by decide +kernel
theorem dX11_made_31 : decode cX11_made 31 = .ok (.tableswitch 75 0 3 #[29, 42, 55, 65], 29) := by decide +kernel
theorem dX11_made_60 : decode cX11_made 60 = .ok (.aload_n 0, 1) := by decide +kernel
theorem dX11_made_61 : decode cX11_made 61 = .ok (.getfield 23, 3) := by decide +kernel
theorem dX11_made_64 : decode cX11_made 64 = .ok (.iload_n 1, 1) := by decide +kernel
theorem dX11_made_65 : decode cX11_made 65 = .ok (.iload_n 2, 1) := by decide +kernel
theorem dX11_made_66 : decode cX11_made 66 = .ok (.invokevirtual 373, 3) := by decide +kernel
theorem dX11_made_69 : decode cX11_made 69 = .ok (.invokestatic 274, 3) := by decide +kernel
theorem dX11_made_72 : decode cX11_made 72 = .ok (.ireturn, 1) := by decide +kernel
theorem dX11_made_73 : decode cX11_made 73 = .ok (.aload_n 0, 1) := by decide +kernel
theorem dX11_made_74 : decode cX11_made 74 = .ok (.getfield 23, 3) := by decide +kernel
theorem dX11_made_77 : decode cX11_made 77 = .ok (.iload_n 1, 1) := by decide +kernel
theorem dX11_made_78 : decode cX11_made 78 = .ok (.iload_n 2, 1) := by decide +kernel
theorem dX11_made_79 : decode cX11_made 79 = .ok (.invokevirtual 373, 3) := by decide +kernel
theorem dX11_made_82 : decode cX11_made 82 = .ok (.invokestatic 277, 3) := by decide +kernel
theorem dX11_made_85 : decode cX11_made 85 = .ok (.ireturn, 1) := by decide +kernel
theorem dX11_made_86 : decode cX11_made 86 = .ok (.aload_n 0, 1) := by decide +kernel
theorem dX11_made_87 : decode cX11_made 87 = .ok (.getfield 109, 3) := by decide +kernel
theorem dX11_made_90 : decode cX11_made 90 = .ok (.getfield 377, 3) := by decide +kernel
theorem dX11_made_93 : decode cX11_made 93 = .ok (.iload_n 2, 1) := by decide +kernel
theorem dX11_made_94 : decode cX11_made 94 = .ok (.iaload, 1) := by decide +kernel
theorem dX11_made_95 : decode cX11_made 95 = .ok (.ireturn, 1) := by decide +kernel
theorem dX11_made_96 : decode cX11_made 96 = .ok (.aload_n 0, 1) := by decide +kernel
theorem dX11_made_97 : decode cX11_made 97 = .ok (.getfield 109, 3) := by decide +kernel
theorem dX11_made_100 : decode cX11_made 100 = .ok (.getfield 380, 3) := by decide +kernel
theorem dX11_made_103 : decode cX11_made 103 = .ok (.iload_n 2, 1) := by decide +kernel
theorem dX11_made_104 : decode cX11_made 104 = .ok (.iaload, 1) := by decide +kernel
theorem dX11_made_105 : decode cX11_made 105 = .ok (.ireturn, 1) := by decide +kernel
theorem dX11_made_106 : decode cX11_made 106 = .ok (.aload_n 0, 1) := by decide +kernel
theorem dX11_made_107 : decode cX11_made 107 = .ok (.getfield 109, 3) := by decide +kernel
theorem dX11_made_110 : decode cX11_made 110 = .ok (.getfield 383, 3) := by decide +kernel
theorem dX11_made_113 : decode cX11_made 113 = .ok (.iload_n 2, 1) := by decide +kernel
theorem dX11_made_114 : decode cX11_made 114 = .ok (.iaload, 1) := by decide +kernel
theorem dX11_made_115 : decode cX11_made 115 = .ok (.ireturn, 1) := by decide +kernel
abbrev rmX11_made : Room := { frames := 8, cells := 3, slots := 18, locals := 141 }
noncomputable def fX11_made (σ : St) (x0 : Nat) (x1 : Int32) (x2 : Int32) (x3 : Int32) : Option ((Int32 ⊕ String) × St) :=
(fX11_needPlace σ x1).bind fun w1 =>
(match w1 with
| (Sum.inl _, σ1) =>
(gR σ1 x0 10 3).bind fun v6 =>
(gR σ1 v6 2 3).bind fun v9 =>
(aI σ1 v9 0 x1).bind fun v13 =>
(fX11_needBelow σ1 x2 v13).bind fun w14 =>
(match w14 with
| (Sum.inl _, σ14) =>
(fX11_needWhat σ14 x3 4).bind fun w19 =>
(match w19 with
| (Sum.inl _, σ19) =>
(gR σ19 x0 10 16).bind fun v23 =>
(isO σ19 v23 3).bind fun _ =>
(fX3_draw σ19 v23 x1).bind fun w27 =>
if x3.toInt < 0 ∨ 3 < x3.toInt then
((gR w27 x0 10 16).bind fun v107 =>
(gR w27 v107 3 14).bind fun v110 =>
(aI w27 v110 0 x2).bind fun v114 =>
some (Sum.inl v114, w27))
else
(if x3 = 0 then
((gR w27 x0 10 3).bind fun v61 =>
(isO w27 v61 2).bind fun _ =>
(fX2_codeAt w27 v61 x1 x2).bind fun w66 =>
(fX8_whereOf w66).bind fun w69 =>
some (Sum.inl w69, w27))
else
(if x3 = 1 then
((gR w27 x0 10 3).bind fun v74 =>
(isO w27 v74 2).bind fun _ =>
(fX2_codeAt w27 v74 x1 x2).bind fun w79 =>
(fX8_ruleOf w79).bind fun w82 =>
some (Sum.inl w82, w27))
else
(if x3 = 2 then
((gR w27 x0 10 16).bind fun v87 =>
(gR w27 v87 3 12).bind fun v90 =>
(aI w27 v90 0 x2).bind fun v94 =>
some (Sum.inl v94, w27))
else
(if x3 = 3 then
((gR w27 x0 10 16).bind fun v97 =>
(gR w27 v97 3 13).bind fun v100 =>
(aI w27 v100 0 x2).bind fun v104 =>
some (Sum.inl v104, w27))
else
none))))
| (Sum.inr E19, σ19) =>
some (Sum.inr E19, σ19))
| (Sum.inr E14, σ14) =>
some (Sum.inr E14, σ14))
| (Sum.inr E1, σ1) =>
some (Sum.inr E1, σ1))
set_option maxHeartbeats 4000000 in
set_option maxRecDepth 100000 in
theorem cX11_madec {l : Launch} (hst : l.stackTraces = false) {adK adV : Nat → Nat} {G : xG} {A : Nat → Prop} {σ : St} {x0 : Nat} {x1 : Int32} {x2 : Int32} {x3 : Int32} {c : (Int32 ⊕ String) × St} (hf : fX11_made σ x0 x1 x2 x3 = some c) : ConX l yX11_made (xws yX11_made cX11_made 4 (some .int)) rmX11_made 3 18 [.ref (x0), .int (x1), .int (x2), .int (x3)] adK adV G A σ (xoI c.1) c.2 := by
  refine z_start hst rfl (Nat.le_of_ble_eq_true rfl) (fun X _ _ _ C O hE0 => ?_)
  have hE : ∀ r, c = r → zE X 3 18 (xoI r.1) r.2 := fun r e => e ▸ hE0
  show Vz X (0, 0) σ 0 [(0, .ref (x0)), (1, .int (x1)), (2, .int (x2)), (3, .int (x3))] []
  unfold fX11_made at hf
  refine z_iload_n C dX11_made_0 1 rfl 1 rfl rfl ?_
  obtain ⟨⟨r1, σ1⟩, hw1, hf⟩ := x_bind hf
  cases r1 with
  | inl _ =>
    dsimp only at hf
    refine z_cSn C O.2.2 dX11_made_1 4 rfl (cX11_needPlacec O.1 hw1) kX11_needPlace ksX11_needPlace w1111 ⟨rfl, rfl⟩ ⟨Nat.le_of_ble_eq_true rfl, Nat.le_of_ble_eq_true rfl⟩ ⟨Nat.le_of_ble_eq_true rfl, Nat.le_of_ble_eq_true rfl⟩ rfl rfl (Nat.le_of_ble_eq_true rfl) (1, 6) rfl ?_
    refine z_iload_n C dX11_made_4 5 rfl 2 rfl rfl ?_
    refine z_aload_n C dX11_made_5 6 rfl 0 rfl rfl ?_
    obtain ⟨v6, hv6, hf⟩ := x_bind hf
    refine z_getR C dX11_made_6 9 rfl hv6 cl10 rfl w518 ?_
    obtain ⟨v9, hv9, hf⟩ := x_bind hf
    refine z_getR C dX11_made_9 12 rfl hv9 cl2 rfl w244 ?_
    refine z_iload_n C dX11_made_12 13 rfl 1 rfl rfl ?_
    obtain ⟨v13, hv13, hf⟩ := x_bind hf
    refine z_iaload C dX11_made_13 14 rfl hv13 ?_
    obtain ⟨⟨r14, σ14⟩, hw14, hf⟩ := x_bind hf
    cases r14 with
    | inl _ =>
      dsimp only at hf
      refine z_cSn C O.2.2 dX11_made_14 17 rfl (cX11_needBelowc O.1 hw14) kX11_needBelow ksX11_needBelow w1250 ⟨rfl, rfl⟩ ⟨Nat.le_of_ble_eq_true rfl, Nat.le_of_ble_eq_true rfl⟩ ⟨Nat.le_of_ble_eq_true rfl, Nat.le_of_ble_eq_true rfl⟩ rfl rfl (Nat.le_of_ble_eq_true rfl) (2, 12) rfl ?_
      refine z_iload_n C dX11_made_17 18 rfl 3 rfl rfl ?_
      refine z_iconst C dX11_made_18 19 rfl 4 (by decide) ?_
      obtain ⟨⟨r19, σ19⟩, hw19, hf⟩ := x_bind hf
      cases r19 with
      | inl _ =>
        dsimp only at hf
        refine z_cSn C O.2.2 dX11_made_19 22 rfl (cX11_needWhatc O.1 hw19) kX11_needWhat ksX11_needWhat w1066 ⟨rfl, rfl⟩ ⟨Nat.le_of_ble_eq_true rfl, Nat.le_of_ble_eq_true rfl⟩ ⟨Nat.le_of_ble_eq_true rfl, Nat.le_of_ble_eq_true rfl⟩ rfl rfl (Nat.le_of_ble_eq_true rfl) (3, 18) rfl ?_
        refine z_aload_n C dX11_made_22 23 rfl 0 rfl rfl ?_
        obtain ⟨v23, hv23, hf⟩ := x_bind hf
        refine z_getR C dX11_made_23 26 rfl hv23 cl10 rfl w531 ?_
        refine z_iload_n C dX11_made_26 27 rfl 1 rfl rfl ?_
        obtain ⟨o27, ho27, hf⟩ := x_bind hf
        obtain ⟨w27, hw27, hf⟩ := x_bind hf
        refine z_callVv C dX11_made_27 30 rfl ho27 cl3.1 rfl (cX3_drawc hw27) kX3_draw kvX3_draw w1149 ⟨rfl, rfl⟩ ⟨Nat.le_of_ble_eq_true rfl, Nat.le_of_ble_eq_true rfl⟩ ⟨Nat.le_of_ble_eq_true rfl, Nat.le_of_ble_eq_true rfl⟩ rfl rfl (Nat.le_of_ble_eq_true rfl) ?_
        refine z_iload_n C dX11_made_30 31 rfl 3 rfl rfl ?_
        by_cases hc : x3.toInt < 0 ∨ 3 < x3.toInt
        · have hf := (if_pos hc).symm.trans hf
          refine z_tableOut C dX11_made_31 hc 106 (by decide) ?_
          refine z_aload_n C dX11_made_106 107 rfl 0 rfl rfl ?_
          obtain ⟨v107, hv107, hf⟩ := x_bind hf
          refine z_getR C dX11_made_107 110 rfl hv107 cl10 rfl w531 ?_
          obtain ⟨v110, hv110, hf⟩ := x_bind hf
          refine z_getR C dX11_made_110 113 rfl hv110 cl3 rfl w475 ?_
          refine z_iload_n C dX11_made_113 114 rfl 2 rfl rfl ?_
          obtain ⟨v114, hv114, hf⟩ := x_bind hf
          refine z_iaload C dX11_made_114 115 rfl hv114 ?_
          exact z_iret C (hE _ (Option.some.inj hf).symm) ⟨Nat.le_of_ble_eq_true rfl, Nat.le_of_ble_eq_true rfl⟩ dX11_made_115
        · have hf := (if_neg hc).symm.trans hf
          by_cases hj0 : x3 = 0
          · have hf := (if_pos hj0).symm.trans hf
            refine z_topi hj0 ?_
            refine z_tableIn C dX11_made_31 (by decide) (by decide) (off := 29) (by decide) 60 (by decide) ?_
            refine z_aload_n C dX11_made_60 61 rfl 0 rfl rfl ?_
            obtain ⟨v61, hv61, hf⟩ := x_bind hf
            refine z_getR C dX11_made_61 64 rfl hv61 cl10 rfl w518 ?_
            refine z_iload_n C dX11_made_64 65 rfl 1 rfl rfl ?_
            refine z_iload_n C dX11_made_65 66 rfl 2 rfl rfl ?_
            obtain ⟨o66, ho66, hf⟩ := x_bind hf
            obtain ⟨w66, hw66, hf⟩ := x_bind hf
            refine z_callVi C dX11_made_66 69 rfl ho66 cl2.1 rfl (cX2_codeAtc hw66) kX2_codeAt kvX2_codeAt w1411 ⟨rfl, rfl⟩ ⟨Nat.le_of_ble_eq_true rfl, Nat.le_of_ble_eq_true rfl⟩ ⟨Nat.le_of_ble_eq_true rfl, Nat.le_of_ble_eq_true rfl⟩ rfl rfl (Nat.le_of_ble_eq_true rfl) ?_
            obtain ⟨w69, hw69, hf⟩ := x_bind hf
            refine z_callSi C dX11_made_69 72 rfl (cX8_whereOfc hw69) kX8_whereOf ksX8_whereOf w1211 ⟨rfl, rfl⟩ ⟨Nat.le_of_ble_eq_true rfl, Nat.le_of_ble_eq_true rfl⟩ ⟨Nat.le_of_ble_eq_true rfl, Nat.le_of_ble_eq_true rfl⟩ rfl rfl (Nat.le_of_ble_eq_true rfl) ?_
            exact z_iret C (hE _ (Option.some.inj hf).symm) ⟨Nat.le_of_ble_eq_true rfl, Nat.le_of_ble_eq_true rfl⟩ dX11_made_72
          · have hf := (if_neg hj0).symm.trans hf
            by_cases hj1 : x3 = 1
            · have hf := (if_pos hj1).symm.trans hf
              refine z_topi hj1 ?_
              refine z_tableIn C dX11_made_31 (by decide) (by decide) (off := 42) (by decide) 73 (by decide) ?_
              refine z_aload_n C dX11_made_73 74 rfl 0 rfl rfl ?_
              obtain ⟨v74, hv74, hf⟩ := x_bind hf
              refine z_getR C dX11_made_74 77 rfl hv74 cl10 rfl w518 ?_
              refine z_iload_n C dX11_made_77 78 rfl 1 rfl rfl ?_
              refine z_iload_n C dX11_made_78 79 rfl 2 rfl rfl ?_
              obtain ⟨o79, ho79, hf⟩ := x_bind hf
              obtain ⟨w79, hw79, hf⟩ := x_bind hf
              refine z_callVi C dX11_made_79 82 rfl ho79 cl2.1 rfl (cX2_codeAtc hw79) kX2_codeAt kvX2_codeAt w1411 ⟨rfl, rfl⟩ ⟨Nat.le_of_ble_eq_true rfl, Nat.le_of_ble_eq_true rfl⟩ ⟨Nat.le_of_ble_eq_true rfl, Nat.le_of_ble_eq_true rfl⟩ rfl rfl (Nat.le_of_ble_eq_true rfl) ?_
              obtain ⟨w82, hw82, hf⟩ := x_bind hf
              refine z_callSi C dX11_made_82 85 rfl (cX8_ruleOfc hw82) kX8_ruleOf ksX8_ruleOf w1212 ⟨rfl, rfl⟩ ⟨Nat.le_of_ble_eq_true rfl, Nat.le_of_ble_eq_true rfl⟩ ⟨Nat.le_of_ble_eq_true rfl, Nat.le_of_ble_eq_true rfl⟩ rfl rfl (Nat.le_of_ble_eq_true rfl) ?_
              exact z_iret C (hE _ (Option.some.inj hf).symm) ⟨Nat.le_of_ble_eq_true rfl, Nat.le_of_ble_eq_true rfl⟩ dX11_made_85
            · have hf := (if_neg hj1).symm.trans hf
              by_cases hj2 : x3 = 2
              · have hf := (if_pos hj2).symm.trans hf
                refine z_topi hj2 ?_
                refine z_tableIn C dX11_made_31 (by decide) (by decide) (off := 55) (by decide) 86 (by decide) ?_
                refine z_aload_n C dX11_made_86 87 rfl 0 rfl rfl ?_
                obtain ⟨v87, hv87, hf⟩ := x_bind hf
                refine z_getR C dX11_made_87 90 rfl hv87 cl10 rfl w531 ?_
                obtain ⟨v90, hv90, hf⟩ := x_bind hf
                refine z_getR C dX11_made_90 93 rfl hv90 cl3 rfl w471 ?_
                refine z_iload_n C dX11_made_93 94 rfl 2 rfl rfl ?_
                obtain ⟨v94, hv94, hf⟩ := x_bind hf
                refine z_iaload C dX11_made_94 95 rfl hv94 ?_
                exact z_iret C (hE _ (Option.some.inj hf).symm) ⟨Nat.le_of_ble_eq_true rfl, Nat.le_of_ble_eq_true rfl⟩ dX11_made_95
              · have hf := (if_neg hj2).symm.trans hf
                by_cases hj3 : x3 = 3
                · have hf := (if_pos hj3).symm.trans hf
                  refine z_topi hj3 ?_
                  refine z_tableIn C dX11_made_31 (by decide) (by decide) (off := 65) (by decide) 96 (by decide) ?_
                  refine z_aload_n C dX11_made_96 97 rfl 0 rfl rfl ?_
                  obtain ⟨v97, hv97, hf⟩ := x_bind hf
                  refine z_getR C dX11_made_97 100 rfl hv97 cl10 rfl w531 ?_
                  obtain ⟨v100, hv100, hf⟩ := x_bind hf
                  refine z_getR C dX11_made_100 103 rfl hv100 cl3 rfl w473 ?_
                  refine z_iload_n C dX11_made_103 104 rfl 2 rfl rfl ?_
                  obtain ⟨v104, hv104, hf⟩ := x_bind hf
                  refine z_iaload C dX11_made_104 105 rfl hv104 ?_
                  exact z_iret C (hE _ (Option.some.inj hf).symm) ⟨Nat.le_of_ble_eq_true rfl, Nat.le_of_ble_eq_true rfl⟩ dX11_made_105
                · have hf := (if_neg hj3).symm.trans hf
                  cases hf
      | inr E19 =>
        dsimp only at hf
        exact z_cSt C O dX11_made_19 (cX11_needWhatc O.1 hw19) kX11_needWhat ksX11_needWhat w1066 ⟨rfl, rfl⟩ ⟨Nat.le_of_ble_eq_true rfl, Nat.le_of_ble_eq_true rfl⟩ ⟨Nat.le_of_ble_eq_true rfl, Nat.le_of_ble_eq_true rfl⟩ rfl rfl (Nat.le_of_ble_eq_true rfl) ⟨Nat.le_of_ble_eq_true rfl, Nat.le_of_ble_eq_true rfl⟩ (hE _ (Option.some.inj hf).symm)
    | inr E14 =>
      dsimp only at hf
      exact z_cSt C O dX11_made_14 (cX11_needBelowc O.1 hw14) kX11_needBelow ksX11_needBelow w1250 ⟨rfl, rfl⟩ ⟨Nat.le_of_ble_eq_true rfl, Nat.le_of_ble_eq_true rfl⟩ ⟨Nat.le_of_ble_eq_true rfl, Nat.le_of_ble_eq_true rfl⟩ rfl rfl (Nat.le_of_ble_eq_true rfl) ⟨Nat.le_of_ble_eq_true rfl, Nat.le_of_ble_eq_true rfl⟩ (hE _ (Option.some.inj hf).symm)
  | inr E1 =>
    dsimp only at hf
    exact z_cSt C O dX11_made_1 (cX11_needPlacec O.1 hw1) kX11_needPlace ksX11_needPlace w1111 ⟨rfl, rfl⟩ ⟨Nat.le_of_ble_eq_true rfl, Nat.le_of_ble_eq_true rfl⟩ ⟨Nat.le_of_ble_eq_true rfl, Nat.le_of_ble_eq_true rfl⟩ rfl rfl (Nat.le_of_ble_eq_true rfl) ⟨Nat.le_of_ble_eq_true rfl, Nat.le_of_ble_eq_true rfl⟩ (hE _ (Option.some.inj hf).symm)
theorem dX11_make_0 : decode cX11_make 0 = .ok (.iload_n 1, 1) := by decide +kernel
theorem dX11_make_1 : decode cX11_make 1 = .ok (.invokestatic 229, 3) := by decide +kernel
theorem dX11_make_4 : decode cX11_make 4 = .ok (.iload_n 2, 1) := by decide +kernel
theorem dX11_make_5 : decode cX11_make 5 = .ok (.ifCond .lt 17, 3) := by decide +kernel
theorem dX11_make_8 : decode cX11_make 8 = .ok (.aload_n 0, 1) := by decide +kernel
theorem dX11_make_9 : decode cX11_make 9 = .ok (.getfield 23, 3) := by decide +kernel
theorem dX11_make_12 : decode cX11_make 12 = .ok (.getfield 263, 3) := by decide +kernel
theorem dX11_make_15 : decode cX11_make 15 = .ok (.iload_n 1, 1) := by decide +kernel
theorem dX11_make_16 : decode cX11_make 16 = .ok (.iaload, 1) := by decide +kernel
theorem dX11_make_17 : decode cX11_make 17 = .ok (.bipush 40, 2) := by decide +kernel
theorem dX11_make_19 : decode cX11_make 19 = .ok (.if_icmp .lt 5, 3) := by decide +kernel
theorem dX11_make_22 : decode cX11_make 22 = .ok (.iconst (-1), 1) := by decide +kernel
theorem dX11_make_23 : decode cX11_make 23 = .ok (.ireturn, 1) := by decide +kernel
theorem dX11_make_24 : decode cX11_make 24 = .ok (.aload_n 0, 1) := by decide +kernel
theorem dX11_make_25 : decode cX11_make 25 = .ok (.getfield 23, 3) := by decide +kernel
theorem dX11_make_28 : decode cX11_make 28 = .ok (.getfield 52, 3) := by decide +kernel
theorem dX11_make_31 : decode cX11_make 31 = .ok (.aload_n 0, 1) := by decide +kernel
theorem dX11_make_32 : decode cX11_make 32 = .ok (.getfield 23, 3) := by decide +kernel
theorem dX11_make_35 : decode cX11_make 35 = .ok (.getfield 232, 3) := by decide +kernel
theorem dX11_make_38 : decode cX11_make 38 = .ok (.iload_n 1, 1) := by decide +kernel
theorem dX11_make_39 : decode cX11_make 39 = .ok (.laload, 1) := by decide +kernel
theorem dX11_make_40 : decode cX11_make 40 = .ok (.iload_n 2, 1) := by decide +kernel
theorem dX11_make_41 : decode cX11_make 41 = .ok (.invokevirtual 250, 3) := by decide +kernel
theorem dX11_make_44 : decode cX11_make 44 = .ok (.istore_n 3, 1) := by decide +kernel
theorem dX11_make_45 : decode cX11_make 45 = .ok (.iload_n 3, 1) := by decide +kernel
theorem dX11_make_46 : decode cX11_make 46 = .ok (.iconst (-1), 1) := by decide +kernel
theorem dX11_make_47 : decode cX11_make 47 = .ok (.if_icmp .ne 5, 3) := by decide +kernel
theorem dX11_make_50 : decode cX11_make 50 = .ok (.iconst (-1), 1) := by decide +kernel
theorem dX11_make_51 : decode cX11_make 51 = .ok (.ireturn, 1) := by decide +kernel
theorem dX11_make_52 : decode cX11_make 52 = .ok (.aload_n 0, 1) := by decide +kernel
theorem dX11_make_53 : decode cX11_make 53 = .ok (.getfield 37, 3) := by decide +kernel
theorem dX11_make_56 : decode cX11_make 56 = .ok (.aload_n 0, 1) := by decide +kernel
theorem dX11_make_57 : decode cX11_make 57 = .ok (.getfield 23, 3) := by decide +kernel
theorem dX11_make_60 : decode cX11_make 60 = .ok (.invokevirtual 218, 3) := by decide +kernel
theorem dX11_make_63 : decode cX11_make 63 = .ok (.aload_n 0, 1) := by decide +kernel
theorem dX11_make_64 : decode cX11_make 64 = .ok (.getfield 23, 3) := by decide +kernel
theorem dX11_make_67 : decode cX11_make 67 = .ok (.iload_n 1, 1) := by decide +kernel
theorem dX11_make_68 : decode cX11_make 68 = .ok (.iload_n 3, 1) := by decide +kernel
theorem dX11_make_69 : decode cX11_make 69 = .ok (.invokevirtual 280, 3) := by decide +kernel
theorem dX11_make_72 : decode cX11_make 72 = .ok (.aload_n 0, 1) := by decide +kernel
theorem dX11_make_73 : decode cX11_make 73 = .ok (.getfield 23, 3) := by decide +kernel
theorem dX11_make_76 : decode cX11_make 76 = .ok (.getfield 232, 3) := by decide +kernel
theorem dX11_make_79 : decode cX11_make 79 = .ok (.iload_n 1, 1) := by decide +kernel
theorem dX11_make_80 : decode cX11_make 80 = .ok (.laload, 1) := by decide +kernel
theorem dX11_make_81 : decode cX11_make 81 = .ok (.invokestatic 239, 3) := by decide +kernel
theorem dX11_make_84 : decode cX11_make 84 = .ok (.ireturn, 1) := by decide +kernel
abbrev rmX11_make : Room := { frames := 8, cells := 1, slots := 6, locals := 140 }
noncomputable def fX11_make (σ : St) (x0 : Nat) (x1 : Int32) (x2 : Int32) : Option ((Int32 ⊕ String) × St) :=
(fX11_needPlace σ x1).bind fun w1 =>
(match w1 with
| (Sum.inl _, σ1) =>
if x2 < 0 then
(some (Sum.inl (-1), σ1))
else
((gR σ1 x0 10 3).bind fun v9 =>
(gR σ1 v9 2 3).bind fun v12 =>
(aI σ1 v12 0 x1).bind fun v16 =>
if v16 < ((40 : Int32)) then
((gR σ1 x0 10 3).bind fun v25 =>
(gR σ1 v25 2 0).bind fun v28 =>
(gR σ1 x0 10 3).bind fun v32 =>
(gR σ1 v32 2 2).bind fun v35 =>
(aL σ1 v35 x1).bind fun v39 =>
(isO σ1 v28 8).bind fun _ =>
(fX8_stepCode σ1 v28 v39 x2).bind fun w41 =>
if w41 = (((-1) : Int32)) then
(some (Sum.inl (-1), σ1))
else
((gR σ1 x0 10 6).bind fun v53 =>
(gR σ1 x0 10 3).bind fun v57 =>
(isO σ1 v53 0).bind fun _ =>
(fX0_keep σ1 v53 v57).bind fun w60 =>
(gR w60 x0 10 3).bind fun v64 =>
(isO w60 v64 2).bind fun _ =>
(fX2_addStep w60 v64 x1 w41).bind fun w69 =>
(gR w69 x0 10 3).bind fun v73 =>
(gR w69 v73 2 2).bind fun v76 =>
(aL w69 v76 x1).bind fun v80 =>
(fX10_length v80).bind fun w81 =>
some (Sum.inl w81, w69)))
else
(some (Sum.inl (-1), σ1)))
| (Sum.inr E1, σ1) =>
some (Sum.inr E1, σ1))
set_option maxHeartbeats 4000000 in
set_option maxRecDepth 100000 in
theorem cX11_makec {l : Launch} (hst : l.stackTraces = false) {adK adV : Nat → Nat} {G : xG} {A : Nat → Prop} {σ : St} {x0 : Nat} {x1 : Int32} {x2 : Int32} {c : (Int32 ⊕ String) × St} (hf : fX11_make σ x0 x1 x2 = some c) : ConX l yX11_make (xws yX11_make cX11_make 4 (some .int)) rmX11_make 1 6 [.ref (x0), .int (x1), .int (x2)] adK adV G A σ (xoI c.1) c.2 := by
  refine z_start hst rfl (Nat.le_of_ble_eq_true rfl) (fun X _ _ _ C O hE0 => ?_)
  have hE : ∀ r, c = r → zE X 1 6 (xoI r.1) r.2 := fun r e => e ▸ hE0
  show Vz X (0, 0) σ 0 [(0, .ref (x0)), (1, .int (x1)), (2, .int (x2))] []
  unfold fX11_make at hf
  refine z_iload_n C dX11_make_0 1 rfl 1 rfl rfl ?_
  obtain ⟨⟨r1, σ1⟩, hw1, hf⟩ := x_bind hf
  cases r1 with
  | inl _ =>
    dsimp only at hf
    refine z_cSn C O.2.2 dX11_make_1 4 rfl (cX11_needPlacec O.1 hw1) kX11_needPlace ksX11_needPlace w1111 ⟨rfl, rfl⟩ ⟨Nat.le_of_ble_eq_true rfl, Nat.le_of_ble_eq_true rfl⟩ ⟨Nat.le_of_ble_eq_true rfl, Nat.le_of_ble_eq_true rfl⟩ rfl rfl (Nat.le_of_ble_eq_true rfl) (1, 6) rfl ?_
    refine z_iload_n C dX11_make_4 5 rfl 2 rfl rfl ?_
    refine z_if_lt C dX11_make_5 22 (by decide) 8 rfl (fun hc => ?_) (fun hc => ?_)
    · have hf := (if_pos hc).symm.trans hf
      refine z_iconst C dX11_make_22 23 rfl (-1) (by decide) ?_
      exact z_iret C (hE _ (Option.some.inj hf).symm) ⟨Nat.le_of_ble_eq_true rfl, Nat.le_of_ble_eq_true rfl⟩ dX11_make_23
    · have hf := (if_neg hc).symm.trans hf
      refine z_aload_n C dX11_make_8 9 rfl 0 rfl rfl ?_
      obtain ⟨v9, hv9, hf⟩ := x_bind hf
      refine z_getR C dX11_make_9 12 rfl hv9 cl10 rfl w518 ?_
      obtain ⟨v12, hv12, hf⟩ := x_bind hf
      refine z_getR C dX11_make_12 15 rfl hv12 cl2 rfl w244 ?_
      refine z_iload_n C dX11_make_15 16 rfl 1 rfl rfl ?_
      obtain ⟨v16, hv16, hf⟩ := x_bind hf
      refine z_iaload C dX11_make_16 17 rfl hv16 ?_
      refine z_bipush C dX11_make_17 19 rfl 40 (by decide) ?_
      refine z_icmp_lt C dX11_make_19 24 (by decide) 22 rfl (fun hc => ?_) (fun hc => ?_)
      · have hf := (if_pos hc).symm.trans hf
        refine z_aload_n C dX11_make_24 25 rfl 0 rfl rfl ?_
        obtain ⟨v25, hv25, hf⟩ := x_bind hf
        refine z_getR C dX11_make_25 28 rfl hv25 cl10 rfl w518 ?_
        obtain ⟨v28, hv28, hf⟩ := x_bind hf
        refine z_getR C dX11_make_28 31 rfl hv28 cl2 rfl w235 ?_
        refine z_aload_n C dX11_make_31 32 rfl 0 rfl rfl ?_
        obtain ⟨v32, hv32, hf⟩ := x_bind hf
        refine z_getR C dX11_make_32 35 rfl hv32 cl10 rfl w518 ?_
        obtain ⟨v35, hv35, hf⟩ := x_bind hf
        refine z_getR C dX11_make_35 38 rfl hv35 cl2 rfl w241 ?_
        refine z_iload_n C dX11_make_38 39 rfl 1 rfl rfl ?_
        obtain ⟨v39, hv39, hf⟩ := x_bind hf
        refine z_laload C dX11_make_39 40 rfl hv39 ?_
        refine z_iload_n C dX11_make_40 41 rfl 2 rfl rfl ?_
        obtain ⟨o41, ho41, hf⟩ := x_bind hf
        obtain ⟨w41, hw41, hf⟩ := x_bind hf
        refine z_callVi C dX11_make_41 44 rfl ho41 cl8.1 rfl (cX8_stepCodec hw41) kX8_stepCode kvX8_stepCode w1144 ⟨rfl, rfl⟩ ⟨Nat.le_of_ble_eq_true rfl, Nat.le_of_ble_eq_true rfl⟩ ⟨Nat.le_of_ble_eq_true rfl, Nat.le_of_ble_eq_true rfl⟩ rfl rfl (Nat.le_of_ble_eq_true rfl) ?_
        refine z_istore_n C dX11_make_44 45 rfl rfl rfl [(3, .int (w41)), (0, .ref (x0)), (1, .int (x1)), (2, .int (x2))] rfl ?_
        refine z_iload_n C dX11_make_45 46 rfl 0 rfl rfl ?_
        refine z_iconst C dX11_make_46 47 rfl (-1) (by decide) ?_
        refine z_icmp_ne C dX11_make_47 52 (by decide) 50 rfl (fun hc => ?_) (fun hc => ?_)
        · have hf := (if_neg hc).symm.trans hf
          refine z_aload_n C dX11_make_52 53 rfl 1 rfl rfl ?_
          obtain ⟨v53, hv53, hf⟩ := x_bind hf
          refine z_getR C dX11_make_53 56 rfl hv53 cl10 rfl w521 ?_
          refine z_aload_n C dX11_make_56 57 rfl 1 rfl rfl ?_
          obtain ⟨v57, hv57, hf⟩ := x_bind hf
          refine z_getR C dX11_make_57 60 rfl hv57 cl10 rfl w518 ?_
          obtain ⟨o60, ho60, hf⟩ := x_bind hf
          obtain ⟨w60, hw60, hf⟩ := x_bind hf
          refine z_callVv C dX11_make_60 63 rfl ho60 cl0.1 rfl (cX0_keepc hw60) kX0_keep kvX0_keep w618 ⟨rfl, rfl⟩ ⟨Nat.le_of_ble_eq_true rfl, Nat.le_of_ble_eq_true rfl⟩ ⟨Nat.le_of_ble_eq_true rfl, Nat.le_of_ble_eq_true rfl⟩ rfl rfl (Nat.le_of_ble_eq_true rfl) ?_
          refine z_aload_n C dX11_make_63 64 rfl 1 rfl rfl ?_
          obtain ⟨v64, hv64, hf⟩ := x_bind hf
          refine z_getR C dX11_make_64 67 rfl hv64 cl10 rfl w518 ?_
          refine z_iload_n C dX11_make_67 68 rfl 2 rfl rfl ?_
          refine z_iload_n C dX11_make_68 69 rfl 0 rfl rfl ?_
          obtain ⟨o69, ho69, hf⟩ := x_bind hf
          obtain ⟨w69, hw69, hf⟩ := x_bind hf
          refine z_callVv C dX11_make_69 72 rfl ho69 cl2.1 rfl (cX2_addStepc hw69) kX2_addStep kvX2_addStep w1220 ⟨rfl, rfl⟩ ⟨Nat.le_of_ble_eq_true rfl, Nat.le_of_ble_eq_true rfl⟩ ⟨Nat.le_of_ble_eq_true rfl, Nat.le_of_ble_eq_true rfl⟩ rfl rfl (Nat.le_of_ble_eq_true rfl) ?_
          refine z_aload_n C dX11_make_72 73 rfl 1 rfl rfl ?_
          obtain ⟨v73, hv73, hf⟩ := x_bind hf
          refine z_getR C dX11_make_73 76 rfl hv73 cl10 rfl w518 ?_
          obtain ⟨v76, hv76, hf⟩ := x_bind hf
          refine z_getR C dX11_make_76 79 rfl hv76 cl2 rfl w241 ?_
          refine z_iload_n C dX11_make_79 80 rfl 2 rfl rfl ?_
          obtain ⟨v80, hv80, hf⟩ := x_bind hf
          refine z_laload C dX11_make_80 81 rfl hv80 ?_
          obtain ⟨w81, hw81, hf⟩ := x_bind hf
          refine z_callSi C dX11_make_81 84 rfl (cX10_lengthc hw81) kX10_length ksX10_length w724 ⟨rfl, rfl⟩ ⟨Nat.le_of_ble_eq_true rfl, Nat.le_of_ble_eq_true rfl⟩ ⟨Nat.le_of_ble_eq_true rfl, Nat.le_of_ble_eq_true rfl⟩ rfl rfl (Nat.le_of_ble_eq_true rfl) ?_
          exact z_iret C (hE _ (Option.some.inj hf).symm) ⟨Nat.le_of_ble_eq_true rfl, Nat.le_of_ble_eq_true rfl⟩ dX11_make_84
        · have hf := (if_pos hc).symm.trans hf
          refine z_iconst C dX11_make_50 51 rfl (-1) (by decide) ?_
          exact z_iret C (hE _ (Option.some.inj hf).symm) ⟨Nat.le_of_ble_eq_true rfl, Nat.le_of_ble_eq_true rfl⟩ dX11_make_51
      · have hf := (if_neg hc).symm.trans hf
        refine z_iconst C dX11_make_22 23 rfl (-1) (by decide) ?_
        exact z_iret C (hE _ (Option.some.inj hf).symm) ⟨Nat.le_of_ble_eq_true rfl, Nat.le_of_ble_eq_true rfl⟩ dX11_make_23
  | inr E1 =>
    dsimp only at hf
    exact z_cSt C O dX11_make_1 (cX11_needPlacec O.1 hw1) kX11_needPlace ksX11_needPlace w1111 ⟨rfl, rfl⟩ ⟨Nat.le_of_ble_eq_true rfl, Nat.le_of_ble_eq_true rfl⟩ ⟨Nat.le_of_ble_eq_true rfl, Nat.le_of_ble_eq_true rfl⟩ rfl rfl (Nat.le_of_ble_eq_true rfl) ⟨Nat.le_of_ble_eq_true rfl, Nat.le_of_ble_eq_true rfl⟩ (hE _ (Option.some.inj hf).symm)
theorem dX11_meet_0 : decode cX11_meet 0 = .ok (.iload_n 1, 1) := by decide +kernel
theorem dX11_meet_1 : decode cX11_meet 1 = .ok (.invokestatic 229, 3) := by decide +kernel
theorem dX11_meet_4 : decode cX11_meet 4 = .ok (.iload_n 2, 1) := by decide +kernel
theorem dX11_meet_5 : decode cX11_meet 5 = .ok (.invokestatic 229, 3) := by decide +kernel
theorem dX11_meet_8 : decode cX11_meet 8 = .ok (.iload_n 3, 1) := by decide +kernel
theorem dX11_meet_9 : decode cX11_meet 9 = .ok (.iconst 1, 1) := by decide +kernel
theorem dX11_meet_10 : decode cX11_meet 10 = .ok (.invokestatic 194, 3) := by decide +kernel
theorem dX11_meet_13 : decode cX11_meet 13 = .ok (.aload_n 0, 1) := by decide +kernel
theorem dX11_meet_14 : decode cX11_meet 14 = .ok (.getfield 77, 3) := by decide +kernel
theorem dX11_meet_17 : decode cX11_meet 17 = .ok (.aload_n 0, 1) := by decide +kernel
theorem dX11_meet_18 : decode cX11_meet 18 = .ok (.getfield 23, 3) := by decide +kernel
theorem dX11_meet_21 : decode cX11_meet 21 = .ok (.getfield 232, 3) := by decide +kernel
theorem dX11_meet_24 : decode cX11_meet 24 = .ok (.iload_n 1, 1) := by decide +kernel
theorem dX11_meet_25 : decode cX11_meet 25 = .ok (.laload, 1) := by decide +kernel
theorem dX11_meet_26 : decode cX11_meet 26 = .ok (.invokevirtual 235, 3) := by decide +kernel
theorem dX11_meet_29 : decode cX11_meet 29 = .ok (.aload_n 0, 1) := by decide +kernel
theorem dX11_meet_30 : decode cX11_meet 30 = .ok (.getfield 81, 3) := by decide +kernel
theorem dX11_meet_33 : decode cX11_meet 33 = .ok (.aload_n 0, 1) := by decide +kernel
theorem dX11_meet_34 : decode cX11_meet 34 = .ok (.getfield 23, 3) := by decide +kernel
theorem dX11_meet_37 : decode cX11_meet 37 = .ok (.getfield 232, 3) := by decide +kernel
theorem dX11_meet_40 : decode cX11_meet 40 = .ok (.iload_n 2, 1) := by decide +kernel
theorem dX11_meet_41 : decode cX11_meet 41 = .ok (.laload, 1) := by decide +kernel
theorem dX11_meet_42 : decode cX11_meet 42 = .ok (.invokevirtual 235, 3) := by decide +kernel
theorem dX11_meet_45 : decode cX11_meet 45 = .ok (.iconst 0, 1) := by decide +kernel
theorem dX11_meet_46 : decode cX11_meet 46 = .ok (.istore 4, 2) := by decide +kernel
theorem dX11_meet_48 : decode cX11_meet 48 = .ok (.iload 4, 2) := by decide +kernel
theorem dX11_meet_50 : decode cX11_meet 50 = .ok (.aload_n 0, 1) := by decide +kernel
theorem dX11_meet_51 : decode cX11_meet 51 = .ok (.getfield 77, 3) := by decide +kernel
theorem dX11_meet_54 : decode cX11_meet 54 = .ok (.getfield 253, 3) := by decide +kernel
theorem dX11_meet_57 : decode cX11_meet 57 = .ok (.if_icmp .ge 46, 3) := by decide +kernel
theorem dX11_meet_60 : decode cX11_meet 60 = .ok (.aload_n 0, 1) := by decide +kernel
theorem dX11_meet_61 : decode cX11_meet 61 = .ok (.getfield 81, 3) := by decide +kernel
theorem dX11_meet_64 : decode cX11_meet 64 = .ok (.aload_n 0, 1) := by decide +kernel
theorem dX11_meet_65 : decode cX11_meet 65 = .ok (.getfield 77, 3) := by decide +kernel
theorem dX11_meet_68 : decode cX11_meet 68 = .ok (.getfield 300, 3) := by decide +kernel
theorem dX11_meet_71 : decode cX11_meet 71 = .ok (.iload 4, 2) := by decide +kernel
theorem dX11_meet_73 : decode cX11_meet 73 = .ok (.laload, 1) := by decide +kernel
theorem dX11_meet_74 : decode cX11_meet 74 = .ok (.invokevirtual 306, 3) := by decide +kernel
theorem dX11_meet_77 : decode cX11_meet 77 = .ok (.istore 5, 2) := by decide +kernel
theorem dX11_meet_79 : decode cX11_meet 79 = .ok (.iload 5, 2) := by decide +kernel
theorem dX11_meet_81 : decode cX11_meet 81 = .ok (.iconst (-1), 1) := by decide +kernel
theorem dX11_meet_82 : decode cX11_meet 82 = .ok (.if_icmp .eq 15, 3) := by decide +kernel
theorem dX11_meet_85 : decode cX11_meet 85 = .ok (.iload_n 3, 1) := by decide +kernel
theorem dX11_meet_86 : decode cX11_meet 86 = .ok (.ifCond .ne 8, 3) := by decide +kernel
theorem dX11_meet_89 : decode cX11_meet 89 = .ok (.iload 4, 2) := by decide +kernel
theorem dX11_meet_91 : decode cX11_meet 91 = .ok (.goto 5, 3) := by decide +kernel
theorem dX11_meet_94 : decode cX11_meet 94 = .ok (.iload 5, 2) := by decide +kernel
theorem dX11_meet_96 : decode cX11_meet 96 = .ok (.ireturn, 1) := by decide +kernel
theorem dX11_meet_97 : decode cX11_meet 97 = .ok (.iinc 4 1, 3) := by decide +kernel
theorem dX11_meet_100 : decode cX11_meet 100 = .ok (.goto (-52), 3) := by decide +kernel
theorem dX11_meet_103 : decode cX11_meet 103 = .ok (.iconst (-1), 1) := by decide +kernel
theorem dX11_meet_104 : decode cX11_meet 104 = .ok (.ireturn, 1) := by decide +kernel
abbrev rmX11_meet : Room := { frames := 8, cells := 3, slots := 18, locals := 141 }
noncomputable def fLX11_meet_48 (σ : St) (x0 : Nat) (x3 : Int32) (a : Int32) : Option ((Int32) ⊕ ((Int32 × Int32) ⊕ (Unit))) :=
(gR σ x0 10 10).bind fun v51 =>
(gI σ v51 6 4).bind fun v54 =>
if v54 ≤ a then
(some (Sum.inr (Sum.inr ())))
else
((gR σ x0 10 11).bind fun v61 =>
(gR σ x0 10 10).bind fun v65 =>
(gR σ v65 6 2).bind fun v68 =>
(aL σ v68 a).bind fun v73 =>
(isO σ v61 6).bind fun _ =>
(fX6_find σ v61 v73).bind fun w74 =>
if w74 = (((-1) : Int32)) then
(xlet (a + 1) fun v97 =>
some (Sum.inl v97))
else
(some (Sum.inr (Sum.inl (a, w74)))))
set_option maxHeartbeats 4000000 in
set_option maxRecDepth 100000 in
theorem lpX11_meet_48 {X : xX} {σ : St} {x0 : Nat} {x3 : Int32}  {a0 : Int32} {b : (Int32 × Int32) ⊕ (Unit)} (C : Ok X cX11_meet 6 RX11 rmX11_meet (some .int)) {adK adV : Nat → Nat} (O : OkE X adK adV) (hb : iterP (fLX11_meet_48 σ x0 x3) a0 = some b) (hy0 : ∀ s, b = (Sum.inl s) → Vz X (3, 18) σ 85 [(3, .int (x3)), (4, .int (s.1)), (5, .int (s.2))] []) (hy1 : ∀ s, b = (Sum.inr s) → Vz X (3, 18) σ 103 [] []) : Vz X (3, 18) σ 48 [(0, .ref (x0)), (3, .int (x3)), (4, .int (a0))] [] := by
  obtain ⟨n, hn⟩ := iterP_some hb
  refine x_loop (P := fun a => Vz X (3, 18) σ 48 [(0, .ref (x0)), (3, .int (x3)), (4, .int (a))] []) ?_ n a0 hn
  intro a c hf hK hxx
  have hx0 : ∀ s, c = Sum.inr (Sum.inl s) → Vz X (3, 18) σ 85 [(3, .int (x3)), (4, .int (s.1)), (5, .int (s.2))] [] := fun s e => hy0 s (hxx _ e).symm
  have hx1 : ∀ s, c = Sum.inr (Sum.inr s) → Vz X (3, 18) σ 103 [] [] := fun s e => hy1 s (hxx _ e).symm
  unfold fLX11_meet_48 at hf
  refine z_iload C dX11_meet_48 50 rfl 2 rfl ?_
  refine z_aload_n C dX11_meet_50 51 rfl 0 rfl rfl ?_
  obtain ⟨v51, hv51, hf⟩ := x_bind hf
  refine z_getR C dX11_meet_51 54 rfl hv51 cl10 rfl w525 ?_
  obtain ⟨v54, hv54, hf⟩ := x_bind hf
  refine z_getI C dX11_meet_54 57 rfl hv54 cl6 rfl w375 ?_
  refine z_icmp_ge C dX11_meet_57 103 (by decide) 60 rfl (fun hc => ?_) (fun hc => ?_)
  · have hf := (if_pos hc).symm.trans hf
    refine z_lv [] (lv' := []) rfl ?_
    exact hx1 _ (Option.some.inj hf).symm
  · have hf := (if_neg hc).symm.trans hf
    refine z_aload_n C dX11_meet_60 61 rfl 0 rfl rfl ?_
    obtain ⟨v61, hv61, hf⟩ := x_bind hf
    refine z_getR C dX11_meet_61 64 rfl hv61 cl10 rfl w526 ?_
    refine z_aload_n C dX11_meet_64 65 rfl 0 rfl rfl ?_
    obtain ⟨v65, hv65, hf⟩ := x_bind hf
    refine z_getR C dX11_meet_65 68 rfl hv65 cl10 rfl w525 ?_
    obtain ⟨v68, hv68, hf⟩ := x_bind hf
    refine z_getR C dX11_meet_68 71 rfl hv68 cl6 rfl w371 ?_
    refine z_iload C dX11_meet_71 73 rfl 2 rfl ?_
    obtain ⟨v73, hv73, hf⟩ := x_bind hf
    refine z_laload C dX11_meet_73 74 rfl hv73 ?_
    obtain ⟨o74, ho74, hf⟩ := x_bind hf
    obtain ⟨w74, hw74, hf⟩ := x_bind hf
    refine z_callVi C dX11_meet_74 77 rfl ho74 cl6.1 rfl (cX6_findc hw74) kX6_find kvX6_find w1268 ⟨rfl, rfl⟩ ⟨Nat.le_of_ble_eq_true rfl, Nat.le_of_ble_eq_true rfl⟩ ⟨Nat.le_of_ble_eq_true rfl, Nat.le_of_ble_eq_true rfl⟩ rfl rfl (Nat.le_of_ble_eq_true rfl) ?_
    refine z_istore C dX11_meet_77 79 rfl rfl [(5, .int (w74)), (0, .ref (x0)), (3, .int (x3)), (4, .int (a))] rfl ?_
    refine z_iload C dX11_meet_79 81 rfl 0 rfl ?_
    refine z_iconst C dX11_meet_81 82 rfl (-1) (by decide) ?_
    refine z_icmp_eq C dX11_meet_82 97 (by decide) 85 rfl (fun hc => ?_) (fun hc => ?_)
    · have hf := (if_pos hc).symm.trans hf
      obtain ⟨v97, ev97, hf⟩ := xlet_some hf
      refine z_iinc C dX11_meet_97 100 rfl 3 rfl v97 ev97 rfl [(4, .int (v97)), (5, .int (w74)), (0, .ref (x0)), (3, .int (x3))] rfl ?_
      refine z_goto C dX11_meet_100 48 (by decide) ?_
      refine z_lv [2, 3, 0] (lv' := [(0, .ref (x0)), (3, .int (x3)), (4, .int (v97))]) rfl ?_
      exact hK _ (Option.some.inj hf).symm
    · have hf := (if_neg hc).symm.trans hf
      refine z_lv [2, 3, 0] (lv' := [(3, .int (x3)), (4, .int (a)), (5, .int (w74))]) rfl ?_
      exact hx0 _ (Option.some.inj hf).symm
noncomputable def fX11_meet (σ : St) (x0 : Nat) (x1 : Int32) (x2 : Int32) (x3 : Int32) : Option ((Int32 ⊕ String) × St) :=
(fX11_needPlace σ x1).bind fun w1 =>
(match w1 with
| (Sum.inl _, σ1) =>
(fX11_needPlace σ1 x2).bind fun w5 =>
(match w5 with
| (Sum.inl _, σ5) =>
(fX11_needWhat σ5 x3 1).bind fun w10 =>
(match w10 with
| (Sum.inl _, σ10) =>
(gR σ10 x0 10 10).bind fun v14 =>
(gR σ10 x0 10 3).bind fun v18 =>
(gR σ10 v18 2 2).bind fun v21 =>
(aL σ10 v21 x1).bind fun v25 =>
(isO σ10 v14 6).bind fun _ =>
(fX6_spread σ10 v14 v25).bind fun w26 =>
(gR w26 x0 10 11).bind fun v30 =>
(gR w26 x0 10 3).bind fun v34 =>
(gR w26 v34 2 2).bind fun v37 =>
(aL w26 v37 x2).bind fun v41 =>
(isO w26 v30 6).bind fun _ =>
(fX6_spread w26 v30 v41).bind fun w42 =>
(iterP (fLX11_meet_48 w42 x0 x3) 0).bind fun b48 =>
(match b48 with
| .inl s48 =>
if x3 = 0 then
(some (Sum.inl s48.1, w42))
else
(some (Sum.inl s48.2, w42))
| .inr s48 =>
some (Sum.inl (-1), w42))
| (Sum.inr E10, σ10) =>
some (Sum.inr E10, σ10))
| (Sum.inr E5, σ5) =>
some (Sum.inr E5, σ5))
| (Sum.inr E1, σ1) =>
some (Sum.inr E1, σ1))
set_option maxHeartbeats 4000000 in
set_option maxRecDepth 100000 in
theorem cX11_meetc {l : Launch} (hst : l.stackTraces = false) {adK adV : Nat → Nat} {G : xG} {A : Nat → Prop} {σ : St} {x0 : Nat} {x1 : Int32} {x2 : Int32} {x3 : Int32} {c : (Int32 ⊕ String) × St} (hf : fX11_meet σ x0 x1 x2 x3 = some c) : ConX l yX11_meet (xws yX11_meet cX11_meet 6 (some .int)) rmX11_meet 3 18 [.ref (x0), .int (x1), .int (x2), .int (x3)] adK adV G A σ (xoI c.1) c.2 := by
  refine z_start hst rfl (Nat.le_of_ble_eq_true rfl) (fun X _ _ _ C O hE0 => ?_)
  have hE : ∀ r, c = r → zE X 3 18 (xoI r.1) r.2 := fun r e => e ▸ hE0
  show Vz X (0, 0) σ 0 [(0, .ref (x0)), (1, .int (x1)), (2, .int (x2)), (3, .int (x3))] []
  unfold fX11_meet at hf
  refine z_iload_n C dX11_meet_0 1 rfl 1 rfl rfl ?_
  obtain ⟨⟨r1, σ1⟩, hw1, hf⟩ := x_bind hf
  cases r1 with
  | inl _ =>
    dsimp only at hf
    refine z_cSn C O.2.2 dX11_meet_1 4 rfl (cX11_needPlacec O.1 hw1) kX11_needPlace ksX11_needPlace w1111 ⟨rfl, rfl⟩ ⟨Nat.le_of_ble_eq_true rfl, Nat.le_of_ble_eq_true rfl⟩ ⟨Nat.le_of_ble_eq_true rfl, Nat.le_of_ble_eq_true rfl⟩ rfl rfl (Nat.le_of_ble_eq_true rfl) (1, 6) rfl ?_
    refine z_iload_n C dX11_meet_4 5 rfl 2 rfl rfl ?_
    obtain ⟨⟨r5, σ5⟩, hw5, hf⟩ := x_bind hf
    cases r5 with
    | inl _ =>
      dsimp only at hf
      refine z_cSn C O.2.2 dX11_meet_5 8 rfl (cX11_needPlacec O.1 hw5) kX11_needPlace ksX11_needPlace w1111 ⟨rfl, rfl⟩ ⟨Nat.le_of_ble_eq_true rfl, Nat.le_of_ble_eq_true rfl⟩ ⟨Nat.le_of_ble_eq_true rfl, Nat.le_of_ble_eq_true rfl⟩ rfl rfl (Nat.le_of_ble_eq_true rfl) (2, 12) rfl ?_
      refine z_iload_n C dX11_meet_8 9 rfl 3 rfl rfl ?_
      refine z_iconst C dX11_meet_9 10 rfl 1 (by decide) ?_
      obtain ⟨⟨r10, σ10⟩, hw10, hf⟩ := x_bind hf
      cases r10 with
      | inl _ =>
        dsimp only at hf
        refine z_cSn C O.2.2 dX11_meet_10 13 rfl (cX11_needWhatc O.1 hw10) kX11_needWhat ksX11_needWhat w1066 ⟨rfl, rfl⟩ ⟨Nat.le_of_ble_eq_true rfl, Nat.le_of_ble_eq_true rfl⟩ ⟨Nat.le_of_ble_eq_true rfl, Nat.le_of_ble_eq_true rfl⟩ rfl rfl (Nat.le_of_ble_eq_true rfl) (3, 18) rfl ?_
        refine z_aload_n C dX11_meet_13 14 rfl 0 rfl rfl ?_
        obtain ⟨v14, hv14, hf⟩ := x_bind hf
        refine z_getR C dX11_meet_14 17 rfl hv14 cl10 rfl w525 ?_
        refine z_aload_n C dX11_meet_17 18 rfl 0 rfl rfl ?_
        obtain ⟨v18, hv18, hf⟩ := x_bind hf
        refine z_getR C dX11_meet_18 21 rfl hv18 cl10 rfl w518 ?_
        obtain ⟨v21, hv21, hf⟩ := x_bind hf
        refine z_getR C dX11_meet_21 24 rfl hv21 cl2 rfl w241 ?_
        refine z_iload_n C dX11_meet_24 25 rfl 1 rfl rfl ?_
        obtain ⟨v25, hv25, hf⟩ := x_bind hf
        refine z_laload C dX11_meet_25 26 rfl hv25 ?_
        obtain ⟨o26, ho26, hf⟩ := x_bind hf
        obtain ⟨w26, hw26, hf⟩ := x_bind hf
        refine z_callVv C dX11_meet_26 29 rfl ho26 cl6.1 rfl (cX6_spreadc hw26) kX6_spread kvX6_spread w1114 ⟨rfl, rfl⟩ ⟨Nat.le_of_ble_eq_true rfl, Nat.le_of_ble_eq_true rfl⟩ ⟨Nat.le_of_ble_eq_true rfl, Nat.le_of_ble_eq_true rfl⟩ rfl rfl (Nat.le_of_ble_eq_true rfl) ?_
        refine z_aload_n C dX11_meet_29 30 rfl 0 rfl rfl ?_
        obtain ⟨v30, hv30, hf⟩ := x_bind hf
        refine z_getR C dX11_meet_30 33 rfl hv30 cl10 rfl w526 ?_
        refine z_aload_n C dX11_meet_33 34 rfl 0 rfl rfl ?_
        obtain ⟨v34, hv34, hf⟩ := x_bind hf
        refine z_getR C dX11_meet_34 37 rfl hv34 cl10 rfl w518 ?_
        obtain ⟨v37, hv37, hf⟩ := x_bind hf
        refine z_getR C dX11_meet_37 40 rfl hv37 cl2 rfl w241 ?_
        refine z_iload_n C dX11_meet_40 41 rfl 2 rfl rfl ?_
        obtain ⟨v41, hv41, hf⟩ := x_bind hf
        refine z_laload C dX11_meet_41 42 rfl hv41 ?_
        obtain ⟨o42, ho42, hf⟩ := x_bind hf
        obtain ⟨w42, hw42, hf⟩ := x_bind hf
        refine z_callVv C dX11_meet_42 45 rfl ho42 cl6.1 rfl (cX6_spreadc hw42) kX6_spread kvX6_spread w1114 ⟨rfl, rfl⟩ ⟨Nat.le_of_ble_eq_true rfl, Nat.le_of_ble_eq_true rfl⟩ ⟨Nat.le_of_ble_eq_true rfl, Nat.le_of_ble_eq_true rfl⟩ rfl rfl (Nat.le_of_ble_eq_true rfl) ?_
        refine z_iconst C dX11_meet_45 46 rfl 0 (by decide) ?_
        refine z_istore C dX11_meet_46 48 rfl rfl [(4, .int (0)), (0, .ref (x0)), (1, .int (x1)), (2, .int (x2)), (3, .int (x3))] rfl ?_
        obtain ⟨b48, hb48, hf⟩ := x_bind hf
        refine z_lv [1, 4, 0] (lv' := [(0, .ref (x0)), (3, .int (x3)), (4, .int (0))]) rfl ?_
        refine lpX11_meet_48 C O hb48 (fun s48 e48 => ?_) (fun s48 e48 => ?_)
        · subst e48
          try dsimp only at hf
          refine z_iload_n C dX11_meet_85 86 rfl 0 rfl rfl ?_
          refine z_if_ne C dX11_meet_86 94 (by decide) 89 rfl (fun hc => ?_) (fun hc => ?_)
          · have hf := (if_neg hc).symm.trans hf
            refine z_iload C dX11_meet_94 96 rfl 2 rfl ?_
            exact z_iret C (hE _ (Option.some.inj hf).symm) ⟨Nat.le_of_ble_eq_true rfl, Nat.le_of_ble_eq_true rfl⟩ dX11_meet_96
          · have hf := (if_pos hc).symm.trans hf
            refine z_iload C dX11_meet_89 91 rfl 1 rfl ?_
            refine z_goto C dX11_meet_91 96 (by decide) ?_
            exact z_iret C (hE _ (Option.some.inj hf).symm) ⟨Nat.le_of_ble_eq_true rfl, Nat.le_of_ble_eq_true rfl⟩ dX11_meet_96
        · subst e48
          try dsimp only at hf
          refine z_iconst C dX11_meet_103 104 rfl (-1) (by decide) ?_
          exact z_iret C (hE _ (Option.some.inj hf).symm) ⟨Nat.le_of_ble_eq_true rfl, Nat.le_of_ble_eq_true rfl⟩ dX11_meet_104
      | inr E10 =>
        dsimp only at hf
        exact z_cSt C O dX11_meet_10 (cX11_needWhatc O.1 hw10) kX11_needWhat ksX11_needWhat w1066 ⟨rfl, rfl⟩ ⟨Nat.le_of_ble_eq_true rfl, Nat.le_of_ble_eq_true rfl⟩ ⟨Nat.le_of_ble_eq_true rfl, Nat.le_of_ble_eq_true rfl⟩ rfl rfl (Nat.le_of_ble_eq_true rfl) ⟨Nat.le_of_ble_eq_true rfl, Nat.le_of_ble_eq_true rfl⟩ (hE _ (Option.some.inj hf).symm)
    | inr E5 =>
      dsimp only at hf
      exact z_cSt C O dX11_meet_5 (cX11_needPlacec O.1 hw5) kX11_needPlace ksX11_needPlace w1111 ⟨rfl, rfl⟩ ⟨Nat.le_of_ble_eq_true rfl, Nat.le_of_ble_eq_true rfl⟩ ⟨Nat.le_of_ble_eq_true rfl, Nat.le_of_ble_eq_true rfl⟩ rfl rfl (Nat.le_of_ble_eq_true rfl) ⟨Nat.le_of_ble_eq_true rfl, Nat.le_of_ble_eq_true rfl⟩ (hE _ (Option.some.inj hf).symm)
  | inr E1 =>
    dsimp only at hf
    exact z_cSt C O dX11_meet_1 (cX11_needPlacec O.1 hw1) kX11_needPlace ksX11_needPlace w1111 ⟨rfl, rfl⟩ ⟨Nat.le_of_ble_eq_true rfl, Nat.le_of_ble_eq_true rfl⟩ ⟨Nat.le_of_ble_eq_true rfl, Nat.le_of_ble_eq_true rfl⟩ rfl rfl (Nat.le_of_ble_eq_true rfl) ⟨Nat.le_of_ble_eq_true rfl, Nat.le_of_ble_eq_true rfl⟩ (hE _ (Option.some.inj hf).symm)
