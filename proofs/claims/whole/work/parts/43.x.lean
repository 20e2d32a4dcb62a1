/-! methods that may throw: X11_needRule X11_areKin X11_needPlace X11_areOne X11_needIndex X11_at X11_needBelow X11_came X11_needWhat X11_canon X11_close X11_compare X11_count -/
theorem dX11_needRule_0 : decode cX11_needRule 0 = .ok (.iload_n 1, 1) := by decide +kernel
theorem dX11_needRule_1 : decode cX11_needRule 1 = .ok (.ifCond .lt 17, 3) := by decide +kernel
theorem dX11_needRule_4 : decode cX11_needRule 4 = .ok (.iload_n 1, 1) := by decide +kernel
theorem dX11_needRule_5 : decode cX11_needRule 5 = .ok (.aload_n 0, 1) := by decide +kernel
theorem dX11_needRule_6 : decode cX11_needRule 6 = .ok (.getfield 23, 3) := by decide +kernel
theorem dX11_needRule_9 : decode cX11_needRule 9 = .ok (.getfield 52, 3) := by decide +kernel
theorem dX11_needRule_12 : decode cX11_needRule 12 = .ok (.getfield 148, 3) := by decide +kernel
theorem dX11_needRule_15 : decode cX11_needRule 15 = .ok (.if_icmp .lt 14, 3) := by decide +kernel
theorem dX11_needRule_18 : decode cX11_needRule 18 = .ok (.new 166, 3) := by decide +kernel
theorem dX11_needRule_21 : decode cX11_needRule 21 = .ok (.dup, 1) := by decide +kernel
theorem dX11_needRule_22 : decode cX11_needRule 22 = .ok (.ldc_w 406, 3) := by decide +kernel
theorem dX11_needRule_25 : decode cX11_needRule 25 = .ok (.invokespecial 170, 3) := by decide +kernel
theorem dX11_needRule_28 : decode cX11_needRule 28 = .ok (.athrow, 1) := by decide +kernel
theorem dX11_needRule_29 : decode cX11_needRule 29 = .ok (.return_, 1) := by decide +kernel
abbrev rmX11_needRule : Room := { frames := 7, cells := 1, slots := 6, locals := 120 }
noncomputable def fX11_needRule (σ : St) (x0 : Nat) (x1 : Int32) : Option ((Unit ⊕ String) × St) :=
if x1 < 0 then
(some (Sum.inr xNSE, σ))
else
((gR σ x0 10 3).bind fun v6 =>
(gR σ v6 2 0).bind fun v9 =>
(gI σ v9 8 1).bind fun v12 =>
if x1 < v12 then
(some (Sum.inl (), σ))
else
(some (Sum.inr xNSE, σ)))
set_option maxHeartbeats 4000000 in
set_option maxRecDepth 100000 in
theorem cX11_needRulec {l : Launch} (hst : l.stackTraces = false) {adK adV : Nat → Nat} {G : xG} {A : Nat → Prop} {σ : St} {x0 : Nat} {x1 : Int32} {c : (Unit ⊕ String) × St} (hf : fX11_needRule σ x0 x1 = some c) : ConX l yX11_needRule (xws yX11_needRule cX11_needRule 2 none) rmX11_needRule 1 6 [.ref (x0), .int (x1)] adK adV G A σ (xoV c.1) c.2 := by
  refine z_start hst rfl (Nat.le_of_ble_eq_true rfl) (fun X _ _ _ C O hE0 => ?_)
  have hE : ∀ r, c = r → zE X 1 6 (xoV r.1) r.2 := fun r e => e ▸ hE0
  show Vz X (0, 0) σ 0 [(0, .ref (x0)), (1, .int (x1))] []
  unfold fX11_needRule at hf
  refine z_iload_n C dX11_needRule_0 1 rfl 1 rfl rfl ?_
  refine z_if_lt C dX11_needRule_1 18 (by decide) 4 rfl (fun hc => ?_) (fun hc => ?_)
  · have hf := (if_pos hc).symm.trans hf
    exact z_nseSW C O fitNSE w1026 w152 hatNSE goodNSE (List.mem_of_getElem? (i := 7) rfl) dX11_needRule_18 dX11_needRule_21 dX11_needRule_22 dX11_needRule_25 dX11_needRule_28 ⟨Nat.le_of_ble_eq_true rfl, Nat.le_of_ble_eq_true rfl⟩ ⟨Nat.le_of_ble_eq_true rfl, Nat.le_of_ble_eq_true rfl⟩ ⟨Nat.le_of_ble_eq_true rfl, Nat.le_of_ble_eq_true rfl⟩ (hE _ (Option.some.inj hf).symm)
  · have hf := (if_neg hc).symm.trans hf
    refine z_iload_n C dX11_needRule_4 5 rfl 1 rfl rfl ?_
    refine z_aload_n C dX11_needRule_5 6 rfl 0 rfl rfl ?_
    obtain ⟨v6, hv6, hf⟩ := x_bind hf
    refine z_getR C dX11_needRule_6 9 rfl hv6 cl10 rfl w518 ?_
    obtain ⟨v9, hv9, hf⟩ := x_bind hf
    refine z_getR C dX11_needRule_9 12 rfl hv9 cl2 rfl w235 ?_
    obtain ⟨v12, hv12, hf⟩ := x_bind hf
    refine z_getI C dX11_needRule_12 15 rfl hv12 cl8 rfl w187 ?_
    refine z_icmp_lt C dX11_needRule_15 29 (by decide) 18 rfl (fun hc => ?_) (fun hc => ?_)
    · have hf := (if_pos hc).symm.trans hf
      exact z_vret C (hE _ (Option.some.inj hf).symm) ⟨Nat.le_of_ble_eq_true rfl, Nat.le_of_ble_eq_true rfl⟩ dX11_needRule_29
    · have hf := (if_neg hc).symm.trans hf
      exact z_nseSW C O fitNSE w1026 w152 hatNSE goodNSE (List.mem_of_getElem? (i := 7) rfl) dX11_needRule_18 dX11_needRule_21 dX11_needRule_22 dX11_needRule_25 dX11_needRule_28 ⟨Nat.le_of_ble_eq_true rfl, Nat.le_of_ble_eq_true rfl⟩ ⟨Nat.le_of_ble_eq_true rfl, Nat.le_of_ble_eq_true rfl⟩ ⟨Nat.le_of_ble_eq_true rfl, Nat.le_of_ble_eq_true rfl⟩ (hE _ (Option.some.inj hf).symm)
theorem dX11_areKin_0 : decode cX11_areKin 0 = .ok (.aload_n 0, 1) := by decide +kernel
theorem dX11_areKin_1 : decode cX11_areKin 1 = .ok (.iload_n 1, 1) := by decide +kernel
theorem dX11_areKin_2 : decode cX11_areKin 2 = .ok (.invokevirtual 173, 3) := by decide +kernel
theorem dX11_areKin_5 : decode cX11_areKin 5 = .ok (.aload_n 0, 1) := by decide +kernel
theorem dX11_areKin_6 : decode cX11_areKin 6 = .ok (.iload_n 2, 1) := by decide +kernel
theorem dX11_areKin_7 : decode cX11_areKin 7 = .ok (.invokevirtual 173, 3) := by decide +kernel
theorem dX11_areKin_10 : decode cX11_areKin 10 = .ok (.aload_n 0, 1) := by decide +kernel
theorem dX11_areKin_11 : decode cX11_areKin 11 = .ok (.getfield 97, 3) := by decide +kernel
theorem dX11_areKin_14 : decode cX11_areKin 14 = .ok (.aload_n 0, 1) := by decide +kernel
theorem dX11_areKin_15 : decode cX11_areKin 15 = .ok (.getfield 23, 3) := by decide +kernel
theorem dX11_areKin_18 : decode cX11_areKin 18 = .ok (.getfield 52, 3) := by decide +kernel
theorem dX11_areKin_21 : decode cX11_areKin 21 = .ok (.getfield 183, 3) := by decide +kernel
theorem dX11_areKin_24 : decode cX11_areKin 24 = .ok (.iload_n 1, 1) := by decide +kernel
theorem dX11_areKin_25 : decode cX11_areKin 25 = .ok (.laload, 1) := by decide +kernel
theorem dX11_areKin_26 : decode cX11_areKin 26 = .ok (.aload_n 0, 1) := by decide +kernel
theorem dX11_areKin_27 : decode cX11_areKin 27 = .ok (.getfield 23, 3) := by decide +kernel
theorem dX11_areKin_30 : decode cX11_areKin 30 = .ok (.getfield 52, 3) := by decide +kernel
theorem dX11_areKin_33 : decode cX11_areKin 33 = .ok (.getfield 179, 3) := by decide +kernel
theorem dX11_areKin_36 : decode cX11_areKin 36 = .ok (.iload_n 1, 1) := by decide +kernel
theorem dX11_areKin_37 : decode cX11_areKin 37 = .ok (.laload, 1) := by decide +kernel
theorem dX11_areKin_38 : decode cX11_areKin 38 = .ok (.invokevirtual 359, 3) := by decide +kernel
theorem dX11_areKin_41 : decode cX11_areKin 41 = .ok (.aload_n 0, 1) := by decide +kernel
theorem dX11_areKin_42 : decode cX11_areKin 42 = .ok (.getfield 101, 3) := by decide +kernel
theorem dX11_areKin_45 : decode cX11_areKin 45 = .ok (.aload_n 0, 1) := by decide +kernel
theorem dX11_areKin_46 : decode cX11_areKin 46 = .ok (.getfield 23, 3) := by decide +kernel
theorem dX11_areKin_49 : decode cX11_areKin 49 = .ok (.getfield 52, 3) := by decide +kernel
theorem dX11_areKin_52 : decode cX11_areKin 52 = .ok (.getfield 183, 3) := by decide +kernel
theorem dX11_areKin_55 : decode cX11_areKin 55 = .ok (.iload_n 2, 1) := by decide +kernel
theorem dX11_areKin_56 : decode cX11_areKin 56 = .ok (.laload, 1) := by decide +kernel
theorem dX11_areKin_57 : decode cX11_areKin 57 = .ok (.aload_n 0, 1) := by decide +kernel
theorem dX11_areKin_58 : decode cX11_areKin 58 = .ok (.getfield 23, 3) := by decide +kernel
theorem dX11_areKin_61 : decode cX11_areKin 61 = .ok (.getfield 52, 3) := by decide +kernel
theorem dX11_areKin_64 : decode cX11_areKin 64 = .ok (.getfield 179, 3) := by decide +kernel
theorem dX11_areKin_67 : decode cX11_areKin 67 = .ok (.iload_n 2, 1) := by decide +kernel
theorem dX11_areKin_68 : decode cX11_areKin 68 = .ok (.laload, 1) := by decide +kernel
theorem dX11_areKin_69 : decode cX11_areKin 69 = .ok (.invokevirtual 359, 3) := by decide +kernel
theorem dX11_areKin_72 : decode cX11_areKin 72 = .ok (.aload_n 0, 1) := by decide +kernel
theorem dX11_areKin_73 : decode cX11_areKin 73 = .ok (.getfield 97, 3) := by decide +kernel
theorem dX11_areKin_76 : decode cX11_areKin 76 = .ok (.getfield 366, 3) := by decide +kernel
theorem dX11_areKin_79 : decode cX11_areKin 79 = .ok (.aload_n 0, 1) := by decide +kernel
theorem dX11_areKin_80 : decode cX11_areKin 80 = .ok (.getfield 101, 3) := by decide +kernel
theorem dX11_areKin_83 : decode cX11_areKin 83 = .ok (.getfield 366, 3) := by decide +kernel
theorem dX11_areKin_86 : decode cX11_areKin 86 = .ok (.lcmp, 1) := by decide +kernel
theorem dX11_areKin_87 : decode cX11_areKin 87 = .ok (.ifCond .ne 25, 3) := by decide +kernel
theorem dX11_areKin_90 : decode cX11_areKin 90 = .ok (.aload_n 0, 1) := by decide +kernel
theorem dX11_areKin_91 : decode cX11_areKin 91 = .ok (.getfield 97, 3) := by decide +kernel
theorem dX11_areKin_94 : decode cX11_areKin 94 = .ok (.getfield 363, 3) := by decide +kernel
theorem dX11_areKin_97 : decode cX11_areKin 97 = .ok (.aload_n 0, 1) := by decide +kernel
theorem dX11_areKin_98 : decode cX11_areKin 98 = .ok (.getfield 101, 3) := by decide +kernel
theorem dX11_areKin_101 : decode cX11_areKin 101 = .ok (.getfield 363, 3) := by decide +kernel
theorem dX11_areKin_104 : decode cX11_areKin 104 = .ok (.lcmp, 1) := by decide +kernel
theorem dX11_areKin_105 : decode cX11_areKin 105 = .ok (.ifCond .ne 7, 3) := by decide +kernel
theorem dX11_areKin_108 : decode cX11_areKin 108 = .ok (.iconst 1, 1) := by decide +kernel
theorem dX11_areKin_109 : decode cX11_areKin 109 = .ok (.goto 4, 3) := by decide +kernel
theorem dX11_areKin_112 : decode cX11_areKin 112 = .ok (.iconst 0, 1) := by decide +kernel
theorem dX11_areKin_113 : decode cX11_areKin 113 = .ok (.ireturn, 1) := by decide +kernel
abbrev rmX11_areKin : Room := { frames := 8, cells := 2, slots := 12, locals := 141 }
noncomputable def fX11_areKin (σ : St) (x0 : Nat) (x1 : Int32) (x2 : Int32) : Option ((Int32 ⊕ String) × St) :=
(isO σ x0 10).bind fun _ =>
(fX11_needRule σ x0 x1).bind fun w2 =>
(match w2 with
| (Sum.inl _, σ2) =>
(isO σ2 x0 10).bind fun _ =>
(fX11_needRule σ2 x0 x2).bind fun w7 =>
(match w7 with
| (Sum.inl _, σ7) =>
(gR σ7 x0 10 14).bind fun v11 =>
(gR σ7 x0 10 3).bind fun v15 =>
(gR σ7 v15 2 0).bind fun v18 =>
(gR σ7 v18 8 2).bind fun v21 =>
(aL σ7 v21 x1).bind fun v25 =>
(gR σ7 x0 10 3).bind fun v27 =>
(gR σ7 v27 2 0).bind fun v30 =>
(gR σ7 v30 8 3).bind fun v33 =>
(aL σ7 v33 x1).bind fun v37 =>
(isO σ7 v11 4).bind fun _ =>
(fX4_findOf σ7 v11 v25 v37).bind fun w38 =>
(gR w38 x0 10 15).bind fun v42 =>
(gR w38 x0 10 3).bind fun v46 =>
(gR w38 v46 2 0).bind fun v49 =>
(gR w38 v49 8 2).bind fun v52 =>
(aL w38 v52 x2).bind fun v56 =>
(gR w38 x0 10 3).bind fun v58 =>
(gR w38 v58 2 0).bind fun v61 =>
(gR w38 v61 8 3).bind fun v64 =>
(aL w38 v64 x2).bind fun v68 =>
(isO w38 v42 4).bind fun _ =>
(fX4_findOf w38 v42 v56 v68).bind fun w69 =>
(gR w69 x0 10 14).bind fun v73 =>
(gL w69 v73 4 2).bind fun v76 =>
(gR w69 x0 10 15).bind fun v80 =>
(gL w69 v80 4 2).bind fun v83 =>
if (lg_cmp v76 v83) = 0 then
((gR w69 x0 10 14).bind fun v91 =>
(gL w69 v91 4 3).bind fun v94 =>
(gR w69 x0 10 15).bind fun v98 =>
(gL w69 v98 4 3).bind fun v101 =>
if (lg_cmp v94 v101) = 0 then
(some (Sum.inl 1, w69))
else
(some (Sum.inl 0, w69)))
else
(some (Sum.inl 0, w69))
| (Sum.inr E7, σ7) =>
some (Sum.inr E7, σ7))
| (Sum.inr E2, σ2) =>
some (Sum.inr E2, σ2))
set_option maxHeartbeats 4000000 in
set_option maxRecDepth 100000 in
theorem cX11_areKinc {l : Launch} (hst : l.stackTraces = false) {adK adV : Nat → Nat} {G : xG} {A : Nat → Prop} {σ : St} {x0 : Nat} {x1 : Int32} {x2 : Int32} {c : (Int32 ⊕ String) × St} (hf : fX11_areKin σ x0 x1 x2 = some c) : ConX l yX11_areKin (xws yX11_areKin cX11_areKin 3 (some .boolean)) rmX11_areKin 2 12 [.ref (x0), .int (x1), .int (x2)] adK adV G A σ (xoI c.1) c.2 := by
  refine z_start hst rfl (Nat.le_of_ble_eq_true rfl) (fun X _ _ _ C O hE0 => ?_)
  have hE : ∀ r, c = r → zE X 2 12 (xoI r.1) r.2 := fun r e => e ▸ hE0
  show Vz X (0, 0) σ 0 [(0, .ref (x0)), (1, .int (x1)), (2, .int (x2))] []
  unfold fX11_areKin at hf
  refine z_aload_n C dX11_areKin_0 1 rfl 0 rfl rfl ?_
  refine z_iload_n C dX11_areKin_1 2 rfl 1 rfl rfl ?_
  obtain ⟨o2, ho2, hf⟩ := x_bind hf
  obtain ⟨⟨r2, σ2⟩, hw2, hf⟩ := x_bind hf
  cases r2 with
  | inl _ =>
    dsimp only at hf
    refine z_cVn C O.2.2 dX11_areKin_2 5 rfl ho2 cl10.1 rfl (cX11_needRulec O.1 hw2) kX11_needRule kvX11_needRule w1049 ⟨rfl, rfl⟩ ⟨Nat.le_of_ble_eq_true rfl, Nat.le_of_ble_eq_true rfl⟩ ⟨Nat.le_of_ble_eq_true rfl, Nat.le_of_ble_eq_true rfl⟩ rfl rfl (Nat.le_of_ble_eq_true rfl) (1, 6) rfl ?_
    refine z_aload_n C dX11_areKin_5 6 rfl 0 rfl rfl ?_
    refine z_iload_n C dX11_areKin_6 7 rfl 2 rfl rfl ?_
    obtain ⟨o7, ho7, hf⟩ := x_bind hf
    obtain ⟨⟨r7, σ7⟩, hw7, hf⟩ := x_bind hf
    cases r7 with
    | inl _ =>
      dsimp only at hf
      refine z_cVn C O.2.2 dX11_areKin_7 10 rfl ho7 cl10.1 rfl (cX11_needRulec O.1 hw7) kX11_needRule kvX11_needRule w1049 ⟨rfl, rfl⟩ ⟨Nat.le_of_ble_eq_true rfl, Nat.le_of_ble_eq_true rfl⟩ ⟨Nat.le_of_ble_eq_true rfl, Nat.le_of_ble_eq_true rfl⟩ rfl rfl (Nat.le_of_ble_eq_true rfl) (2, 12) rfl ?_
      refine z_aload_n C dX11_areKin_10 11 rfl 0 rfl rfl ?_
      obtain ⟨v11, hv11, hf⟩ := x_bind hf
      refine z_getR C dX11_areKin_11 14 rfl hv11 cl10 rfl w529 ?_
      refine z_aload_n C dX11_areKin_14 15 rfl 0 rfl rfl ?_
      obtain ⟨v15, hv15, hf⟩ := x_bind hf
      refine z_getR C dX11_areKin_15 18 rfl hv15 cl10 rfl w518 ?_
      obtain ⟨v18, hv18, hf⟩ := x_bind hf
      refine z_getR C dX11_areKin_18 21 rfl hv18 cl2 rfl w235 ?_
      obtain ⟨v21, hv21, hf⟩ := x_bind hf
      refine z_getR C dX11_areKin_21 24 rfl hv21 cl8 rfl w195 ?_
      refine z_iload_n C dX11_areKin_24 25 rfl 1 rfl rfl ?_
      obtain ⟨v25, hv25, hf⟩ := x_bind hf
      refine z_laload C dX11_areKin_25 26 rfl hv25 ?_
      refine z_aload_n C dX11_areKin_26 27 rfl 0 rfl rfl ?_
      obtain ⟨v27, hv27, hf⟩ := x_bind hf
      refine z_getR C dX11_areKin_27 30 rfl hv27 cl10 rfl w518 ?_
      obtain ⟨v30, hv30, hf⟩ := x_bind hf
      refine z_getR C dX11_areKin_30 33 rfl hv30 cl2 rfl w235 ?_
      obtain ⟨v33, hv33, hf⟩ := x_bind hf
      refine z_getR C dX11_areKin_33 36 rfl hv33 cl8 rfl w201 ?_
      refine z_iload_n C dX11_areKin_36 37 rfl 1 rfl rfl ?_
      obtain ⟨v37, hv37, hf⟩ := x_bind hf
      refine z_laload C dX11_areKin_37 38 rfl hv37 ?_
      obtain ⟨o38, ho38, hf⟩ := x_bind hf
      obtain ⟨w38, hw38, hf⟩ := x_bind hf
      refine z_callVv C dX11_areKin_38 41 rfl ho38 cl4.1 rfl (cX4_findOfc hw38) kX4_findOf kvX4_findOf w1331 ⟨rfl, rfl⟩ ⟨Nat.le_of_ble_eq_true rfl, Nat.le_of_ble_eq_true rfl⟩ ⟨Nat.le_of_ble_eq_true rfl, Nat.le_of_ble_eq_true rfl⟩ rfl rfl (Nat.le_of_ble_eq_true rfl) ?_
      refine z_aload_n C dX11_areKin_41 42 rfl 0 rfl rfl ?_
      obtain ⟨v42, hv42, hf⟩ := x_bind hf
      refine z_getR C dX11_areKin_42 45 rfl hv42 cl10 rfl w530 ?_
      refine z_aload_n C dX11_areKin_45 46 rfl 0 rfl rfl ?_
      obtain ⟨v46, hv46, hf⟩ := x_bind hf
      refine z_getR C dX11_areKin_46 49 rfl hv46 cl10 rfl w518 ?_
      obtain ⟨v49, hv49, hf⟩ := x_bind hf
      refine z_getR C dX11_areKin_49 52 rfl hv49 cl2 rfl w235 ?_
      obtain ⟨v52, hv52, hf⟩ := x_bind hf
      refine z_getR C dX11_areKin_52 55 rfl hv52 cl8 rfl w195 ?_
      refine z_iload_n C dX11_areKin_55 56 rfl 2 rfl rfl ?_
      obtain ⟨v56, hv56, hf⟩ := x_bind hf
      refine z_laload C dX11_areKin_56 57 rfl hv56 ?_
      refine z_aload_n C dX11_areKin_57 58 rfl 0 rfl rfl ?_
      obtain ⟨v58, hv58, hf⟩ := x_bind hf
      refine z_getR C dX11_areKin_58 61 rfl hv58 cl10 rfl w518 ?_
      obtain ⟨v61, hv61, hf⟩ := x_bind hf
      refine z_getR C dX11_areKin_61 64 rfl hv61 cl2 rfl w235 ?_
      obtain ⟨v64, hv64, hf⟩ := x_bind hf
      refine z_getR C dX11_areKin_64 67 rfl hv64 cl8 rfl w201 ?_
      refine z_iload_n C dX11_areKin_67 68 rfl 2 rfl rfl ?_
      obtain ⟨v68, hv68, hf⟩ := x_bind hf
      refine z_laload C dX11_areKin_68 69 rfl hv68 ?_
      obtain ⟨o69, ho69, hf⟩ := x_bind hf
      obtain ⟨w69, hw69, hf⟩ := x_bind hf
      refine z_callVv C dX11_areKin_69 72 rfl ho69 cl4.1 rfl (cX4_findOfc hw69) kX4_findOf kvX4_findOf w1331 ⟨rfl, rfl⟩ ⟨Nat.le_of_ble_eq_true rfl, Nat.le_of_ble_eq_true rfl⟩ ⟨Nat.le_of_ble_eq_true rfl, Nat.le_of_ble_eq_true rfl⟩ rfl rfl (Nat.le_of_ble_eq_true rfl) ?_
      refine z_aload_n C dX11_areKin_72 73 rfl 0 rfl rfl ?_
      obtain ⟨v73, hv73, hf⟩ := x_bind hf
      refine z_getR C dX11_areKin_73 76 rfl hv73 cl10 rfl w529 ?_
      obtain ⟨v76, hv76, hf⟩ := x_bind hf
      refine z_getL C dX11_areKin_76 79 rfl hv76 cl4 rfl w439 ?_
      refine z_aload_n C dX11_areKin_79 80 rfl 0 rfl rfl ?_
      obtain ⟨v80, hv80, hf⟩ := x_bind hf
      refine z_getR C dX11_areKin_80 83 rfl hv80 cl10 rfl w530 ?_
      obtain ⟨v83, hv83, hf⟩ := x_bind hf
      refine z_getL C dX11_areKin_83 86 rfl hv83 cl4 rfl w439 ?_
      refine z_lcmp C dX11_areKin_86 87 rfl ?_
      refine z_if_ne C dX11_areKin_87 112 (by decide) 90 rfl (fun hc => ?_) (fun hc => ?_)
      · have hf := (if_neg hc).symm.trans hf
        refine z_iconst C dX11_areKin_112 113 rfl 0 (by decide) ?_
        exact z_zret C rfl (hE _ (Option.some.inj hf).symm) ⟨Nat.le_of_ble_eq_true rfl, Nat.le_of_ble_eq_true rfl⟩ dX11_areKin_113
      · have hf := (if_pos hc).symm.trans hf
        refine z_aload_n C dX11_areKin_90 91 rfl 0 rfl rfl ?_
        obtain ⟨v91, hv91, hf⟩ := x_bind hf
        refine z_getR C dX11_areKin_91 94 rfl hv91 cl10 rfl w529 ?_
        obtain ⟨v94, hv94, hf⟩ := x_bind hf
        refine z_getL C dX11_areKin_94 97 rfl hv94 cl4 rfl w441 ?_
        refine z_aload_n C dX11_areKin_97 98 rfl 0 rfl rfl ?_
        obtain ⟨v98, hv98, hf⟩ := x_bind hf
        refine z_getR C dX11_areKin_98 101 rfl hv98 cl10 rfl w530 ?_
        obtain ⟨v101, hv101, hf⟩ := x_bind hf
        refine z_getL C dX11_areKin_101 104 rfl hv101 cl4 rfl w441 ?_
        refine z_lcmp C dX11_areKin_104 105 rfl ?_
        refine z_if_ne C dX11_areKin_105 112 (by decide) 108 rfl (fun hc => ?_) (fun hc => ?_)
        · have hf := (if_neg hc).symm.trans hf
          refine z_iconst C dX11_areKin_112 113 rfl 0 (by decide) ?_
          exact z_zret C rfl (hE _ (Option.some.inj hf).symm) ⟨Nat.le_of_ble_eq_true rfl, Nat.le_of_ble_eq_true rfl⟩ dX11_areKin_113
        · have hf := (if_pos hc).symm.trans hf
          refine z_iconst C dX11_areKin_108 109 rfl 1 (by decide) ?_
          refine z_goto C dX11_areKin_109 113 (by decide) ?_
          exact z_zret C rfl (hE _ (Option.some.inj hf).symm) ⟨Nat.le_of_ble_eq_true rfl, Nat.le_of_ble_eq_true rfl⟩ dX11_areKin_113
    | inr E7 =>
      dsimp only at hf
      exact z_cVt C O dX11_areKin_7 ho7 cl10.1 rfl (cX11_needRulec O.1 hw7) kX11_needRule kvX11_needRule w1049 ⟨rfl, rfl⟩ ⟨Nat.le_of_ble_eq_true rfl, Nat.le_of_ble_eq_true rfl⟩ ⟨Nat.le_of_ble_eq_true rfl, Nat.le_of_ble_eq_true rfl⟩ rfl rfl (Nat.le_of_ble_eq_true rfl) ⟨Nat.le_of_ble_eq_true rfl, Nat.le_of_ble_eq_true rfl⟩ (hE _ (Option.some.inj hf).symm)
  | inr E2 =>
    dsimp only at hf
    exact z_cVt C O dX11_areKin_2 ho2 cl10.1 rfl (cX11_needRulec O.1 hw2) kX11_needRule kvX11_needRule w1049 ⟨rfl, rfl⟩ ⟨Nat.le_of_ble_eq_true rfl, Nat.le_of_ble_eq_true rfl⟩ ⟨Nat.le_of_ble_eq_true rfl, Nat.le_of_ble_eq_true rfl⟩ rfl rfl (Nat.le_of_ble_eq_true rfl) ⟨Nat.le_of_ble_eq_true rfl, Nat.le_of_ble_eq_true rfl⟩ (hE _ (Option.some.inj hf).symm)
theorem dX11_needPlace_0 : decode cX11_needPlace 0 = .ok (.iload_n 0, 1) := by decide +kernel
theorem dX11_needPlace_1 : decode cX11_needPlace 1 = .ok (.ifCond .lt 9, 3) := by decide +kernel
theorem dX11_needPlace_4 : decode cX11_needPlace 4 = .ok (.iload_n 0, 1) := by decide +kernel
theorem dX11_needPlace_5 : decode cX11_needPlace 5 = .ok (.bipush 6, 2) := by decide +kernel
theorem dX11_needPlace_7 : decode cX11_needPlace 7 = .ok (.if_icmp .lt 13, 3) := by decide +kernel
theorem dX11_needPlace_10 : decode cX11_needPlace 10 = .ok (.new 166, 3) := by decide +kernel
theorem dX11_needPlace_13 : decode cX11_needPlace 13 = .ok (.dup, 1) := by decide +kernel
theorem dX11_needPlace_14 : decode cX11_needPlace 14 = .ok (.ldc 209, 2) := by decide +kernel
theorem dX11_needPlace_16 : decode cX11_needPlace 16 = .ok (.invokespecial 170, 3) := by decide +kernel
theorem dX11_needPlace_19 : decode cX11_needPlace 19 = .ok (.athrow, 1) := by decide +kernel
theorem dX11_needPlace_20 : decode cX11_needPlace 20 = .ok (.return_, 1) := by decide +kernel
abbrev rmX11_needPlace : Room := { frames := 7, cells := 1, slots := 6, locals := 120 }
noncomputable def fX11_needPlace (σ : St) (x0 : Int32) : Option ((Unit ⊕ String) × St) :=
if x0 < 0 then
(some (Sum.inr xNSE, σ))
else
(if x0 < ((6 : Int32)) then
(some (Sum.inl (), σ))
else
(some (Sum.inr xNSE, σ)))
set_option maxHeartbeats 4000000 in
set_option maxRecDepth 100000 in
theorem cX11_needPlacec {l : Launch} (hst : l.stackTraces = false) {adK adV : Nat → Nat} {G : xG} {A : Nat → Prop} {σ : St} {x0 : Int32} {c : (Unit ⊕ String) × St} (hf : fX11_needPlace σ x0 = some c) : ConX l yX11_needPlace (xws yX11_needPlace cX11_needPlace 1 none) rmX11_needPlace 1 6 [.int (x0)] adK adV G A σ (xoV c.1) c.2 := by
  refine z_start hst rfl (Nat.le_of_ble_eq_true rfl) (fun X _ _ _ C O hE0 => ?_)
  have hE : ∀ r, c = r → zE X 1 6 (xoV r.1) r.2 := fun r e => e ▸ hE0
  show Vz X (0, 0) σ 0 [(0, .int (x0))] []
  unfold fX11_needPlace at hf
  refine z_iload_n C dX11_needPlace_0 1 rfl 0 rfl rfl ?_
  refine z_if_lt C dX11_needPlace_1 10 (by decide) 4 rfl (fun hc => ?_) (fun hc => ?_)
  · have hf := (if_pos hc).symm.trans hf
    exact z_nseS C O fitNSE w1026 w152 hatNSE goodNSE (List.mem_of_getElem? (i := 2) rfl) dX11_needPlace_10 dX11_needPlace_13 dX11_needPlace_14 dX11_needPlace_16 dX11_needPlace_19 ⟨Nat.le_of_ble_eq_true rfl, Nat.le_of_ble_eq_true rfl⟩ ⟨Nat.le_of_ble_eq_true rfl, Nat.le_of_ble_eq_true rfl⟩ ⟨Nat.le_of_ble_eq_true rfl, Nat.le_of_ble_eq_true rfl⟩ (hE _ (Option.some.inj hf).symm)
  · have hf := (if_neg hc).symm.trans hf
    refine z_iload_n C dX11_needPlace_4 5 rfl 0 rfl rfl ?_
    refine z_bipush C dX11_needPlace_5 7 rfl 6 (by decide) ?_
    refine z_icmp_lt C dX11_needPlace_7 20 (by decide) 10 rfl (fun hc => ?_) (fun hc => ?_)
    · have hf := (if_pos hc).symm.trans hf
      exact z_vret C (hE _ (Option.some.inj hf).symm) ⟨Nat.le_of_ble_eq_true rfl, Nat.le_of_ble_eq_true rfl⟩ dX11_needPlace_20
    · have hf := (if_neg hc).symm.trans hf
      exact z_nseS C O fitNSE w1026 w152 hatNSE goodNSE (List.mem_of_getElem? (i := 2) rfl) dX11_needPlace_10 dX11_needPlace_13 dX11_needPlace_14 dX11_needPlace_16 dX11_needPlace_19 ⟨Nat.le_of_ble_eq_true rfl, Nat.le_of_ble_eq_true rfl⟩ ⟨Nat.le_of_ble_eq_true rfl, Nat.le_of_ble_eq_true rfl⟩ ⟨Nat.le_of_ble_eq_true rfl, Nat.le_of_ble_eq_true rfl⟩ (hE _ (Option.some.inj hf).symm)
theorem dX11_areOne_0 : decode cX11_areOne 0 = .ok (.iload_n 1, 1) := by decide +kernel
theorem dX11_areOne_1 : decode cX11_areOne 1 = .ok (.invokestatic 229, 3) := by decide +kernel
theorem dX11_areOne_4 : decode cX11_areOne 4 = .ok (.iload_n 2, 1) := by decide +kernel
theorem dX11_areOne_5 : decode cX11_areOne 5 = .ok (.invokestatic 229, 3) := by decide +kernel
theorem dX11_areOne_8 : decode cX11_areOne 8 = .ok (.aload_n 0, 1) := by decide +kernel
theorem dX11_areOne_9 : decode cX11_areOne 9 = .ok (.getfield 23, 3) := by decide +kernel
theorem dX11_areOne_12 : decode cX11_areOne 12 = .ok (.getfield 392, 3) := by decide +kernel
theorem dX11_areOne_15 : decode cX11_areOne 15 = .ok (.iload_n 1, 1) := by decide +kernel
theorem dX11_areOne_16 : decode cX11_areOne 16 = .ok (.laload, 1) := by decide +kernel
theorem dX11_areOne_17 : decode cX11_areOne 17 = .ok (.aload_n 0, 1) := by decide +kernel
theorem dX11_areOne_18 : decode cX11_areOne 18 = .ok (.getfield 23, 3) := by decide +kernel
theorem dX11_areOne_21 : decode cX11_areOne 21 = .ok (.getfield 392, 3) := by decide +kernel
theorem dX11_areOne_24 : decode cX11_areOne 24 = .ok (.iload_n 2, 1) := by decide +kernel
theorem dX11_areOne_25 : decode cX11_areOne 25 = .ok (.laload, 1) := by decide +kernel
theorem dX11_areOne_26 : decode cX11_areOne 26 = .ok (.lcmp, 1) := by decide +kernel
theorem dX11_areOne_27 : decode cX11_areOne 27 = .ok (.ifCond .ne 24, 3) := by decide +kernel
theorem dX11_areOne_30 : decode cX11_areOne 30 = .ok (.aload_n 0, 1) := by decide +kernel
theorem dX11_areOne_31 : decode cX11_areOne 31 = .ok (.getfield 23, 3) := by decide +kernel
theorem dX11_areOne_34 : decode cX11_areOne 34 = .ok (.getfield 263, 3) := by decide +kernel
theorem dX11_areOne_37 : decode cX11_areOne 37 = .ok (.iload_n 1, 1) := by decide +kernel
theorem dX11_areOne_38 : decode cX11_areOne 38 = .ok (.iaload, 1) := by decide +kernel
theorem dX11_areOne_39 : decode cX11_areOne 39 = .ok (.aload_n 0, 1) := by decide +kernel
theorem dX11_areOne_40 : decode cX11_areOne 40 = .ok (.getfield 23, 3) := by decide +kernel
theorem dX11_areOne_43 : decode cX11_areOne 43 = .ok (.getfield 263, 3) := by decide +kernel
theorem dX11_areOne_46 : decode cX11_areOne 46 = .ok (.iload_n 2, 1) := by decide +kernel
theorem dX11_areOne_47 : decode cX11_areOne 47 = .ok (.iaload, 1) := by decide +kernel
theorem dX11_areOne_48 : decode cX11_areOne 48 = .ok (.if_icmp .eq 5, 3) := by decide +kernel
theorem dX11_areOne_51 : decode cX11_areOne 51 = .ok (.iconst 0, 1) := by decide +kernel
theorem dX11_areOne_52 : decode cX11_areOne 52 = .ok (.ireturn, 1) := by decide +kernel
theorem dX11_areOne_53 : decode cX11_areOne 53 = .ok (.aload_n 0, 1) := by decide +kernel
theorem dX11_areOne_54 : decode cX11_areOne 54 = .ok (.getfield 109, 3) := by decide +kernel
theorem dX11_areOne_57 : decode cX11_areOne 57 = .ok (.iload_n 1, 1) := by decide +kernel
theorem dX11_areOne_58 : decode cX11_areOne 58 = .ok (.invokevirtual 266, 3) := by decide +kernel
theorem dX11_areOne_61 : decode cX11_areOne 61 = .ok (.aload_n 0, 1) := by decide +kernel
theorem dX11_areOne_62 : decode cX11_areOne 62 = .ok (.getfield 113, 3) := by decide +kernel
theorem dX11_areOne_65 : decode cX11_areOne 65 = .ok (.iload_n 2, 1) := by decide +kernel
theorem dX11_areOne_66 : decode cX11_areOne 66 = .ok (.invokevirtual 266, 3) := by decide +kernel
theorem dX11_areOne_69 : decode cX11_areOne 69 = .ok (.aload_n 0, 1) := by decide +kernel
theorem dX11_areOne_70 : decode cX11_areOne 70 = .ok (.getfield 109, 3) := by decide +kernel
theorem dX11_areOne_73 : decode cX11_areOne 73 = .ok (.aload_n 0, 1) := by decide +kernel
theorem dX11_areOne_74 : decode cX11_areOne 74 = .ok (.getfield 113, 3) := by decide +kernel
theorem dX11_areOne_77 : decode cX11_areOne 77 = .ok (.invokevirtual 395, 3) := by decide +kernel
theorem dX11_areOne_80 : decode cX11_areOne 80 = .ok (.ireturn, 1) := by decide +kernel
abbrev rmX11_areOne : Room := { frames := 8, cells := 2, slots := 12, locals := 140 }
noncomputable def fX11_areOne (σ : St) (x0 : Nat) (x1 : Int32) (x2 : Int32) : Option ((Int32 ⊕ String) × St) :=
(fX11_needPlace σ x1).bind fun w1 =>
(match w1 with
| (Sum.inl _, σ1) =>
(fX11_needPlace σ1 x2).bind fun w5 =>
(match w5 with
| (Sum.inl _, σ5) =>
(gR σ5 x0 10 3).bind fun v9 =>
(gR σ5 v9 2 1).bind fun v12 =>
(aL σ5 v12 x1).bind fun v16 =>
(gR σ5 x0 10 3).bind fun v18 =>
(gR σ5 v18 2 1).bind fun v21 =>
(aL σ5 v21 x2).bind fun v25 =>
if (lg_cmp v16 v25) = 0 then
((gR σ5 x0 10 3).bind fun v31 =>
(gR σ5 v31 2 3).bind fun v34 =>
(aI σ5 v34 0 x1).bind fun v38 =>
(gR σ5 x0 10 3).bind fun v40 =>
(gR σ5 v40 2 3).bind fun v43 =>
(aI σ5 v43 0 x2).bind fun v47 =>
if v38 = v47 then
((gR σ5 x0 10 16).bind fun v54 =>
(isO σ5 v54 3).bind fun _ =>
(fX3_draw σ5 v54 x1).bind fun w58 =>
(gR w58 x0 10 17).bind fun v62 =>
(isO w58 v62 3).bind fun _ =>
(fX3_draw w58 v62 x2).bind fun w66 =>
(gR w66 x0 10 16).bind fun v70 =>
(gR w66 x0 10 17).bind fun v74 =>
(isO w66 v70 3).bind fun _ =>
(fX3_hasCanonOf w66 v70 v74).bind fun w77 =>
(zok w77).bind fun z80 =>
some (Sum.inl z80, w66))
else
(some (Sum.inl 0, σ5)))
else
(some (Sum.inl 0, σ5))
| (Sum.inr E5, σ5) =>
some (Sum.inr E5, σ5))
| (Sum.inr E1, σ1) =>
some (Sum.inr E1, σ1))
set_option maxHeartbeats 4000000 in
set_option maxRecDepth 100000 in
theorem cX11_areOnec {l : Launch} (hst : l.stackTraces = false) {adK adV : Nat → Nat} {G : xG} {A : Nat → Prop} {σ : St} {x0 : Nat} {x1 : Int32} {x2 : Int32} {c : (Int32 ⊕ String) × St} (hf : fX11_areOne σ x0 x1 x2 = some c) : ConX l yX11_areOne (xws yX11_areOne cX11_areOne 3 (some .boolean)) rmX11_areOne 2 12 [.ref (x0), .int (x1), .int (x2)] adK adV G A σ (xoI c.1) c.2 := by
  refine z_start hst rfl (Nat.le_of_ble_eq_true rfl) (fun X _ _ _ C O hE0 => ?_)
  have hE : ∀ r, c = r → zE X 2 12 (xoI r.1) r.2 := fun r e => e ▸ hE0
  show Vz X (0, 0) σ 0 [(0, .ref (x0)), (1, .int (x1)), (2, .int (x2))] []
  unfold fX11_areOne at hf
  refine z_iload_n C dX11_areOne_0 1 rfl 1 rfl rfl ?_
  obtain ⟨⟨r1, σ1⟩, hw1, hf⟩ := x_bind hf
  cases r1 with
  | inl _ =>
    dsimp only at hf
    refine z_cSn C O.2.2 dX11_areOne_1 4 rfl (cX11_needPlacec O.1 hw1) kX11_needPlace ksX11_needPlace w1111 ⟨rfl, rfl⟩ ⟨Nat.le_of_ble_eq_true rfl, Nat.le_of_ble_eq_true rfl⟩ ⟨Nat.le_of_ble_eq_true rfl, Nat.le_of_ble_eq_true rfl⟩ rfl rfl (Nat.le_of_ble_eq_true rfl) (1, 6) rfl ?_
    refine z_iload_n C dX11_areOne_4 5 rfl 2 rfl rfl ?_
    obtain ⟨⟨r5, σ5⟩, hw5, hf⟩ := x_bind hf
    cases r5 with
    | inl _ =>
      dsimp only at hf
      refine z_cSn C O.2.2 dX11_areOne_5 8 rfl (cX11_needPlacec O.1 hw5) kX11_needPlace ksX11_needPlace w1111 ⟨rfl, rfl⟩ ⟨Nat.le_of_ble_eq_true rfl, Nat.le_of_ble_eq_true rfl⟩ ⟨Nat.le_of_ble_eq_true rfl, Nat.le_of_ble_eq_true rfl⟩ rfl rfl (Nat.le_of_ble_eq_true rfl) (2, 12) rfl ?_
      refine z_aload_n C dX11_areOne_8 9 rfl 0 rfl rfl ?_
      obtain ⟨v9, hv9, hf⟩ := x_bind hf
      refine z_getR C dX11_areOne_9 12 rfl hv9 cl10 rfl w518 ?_
      obtain ⟨v12, hv12, hf⟩ := x_bind hf
      refine z_getR C dX11_areOne_12 15 rfl hv12 cl2 rfl w239 ?_
      refine z_iload_n C dX11_areOne_15 16 rfl 1 rfl rfl ?_
      obtain ⟨v16, hv16, hf⟩ := x_bind hf
      refine z_laload C dX11_areOne_16 17 rfl hv16 ?_
      refine z_aload_n C dX11_areOne_17 18 rfl 0 rfl rfl ?_
      obtain ⟨v18, hv18, hf⟩ := x_bind hf
      refine z_getR C dX11_areOne_18 21 rfl hv18 cl10 rfl w518 ?_
      obtain ⟨v21, hv21, hf⟩ := x_bind hf
      refine z_getR C dX11_areOne_21 24 rfl hv21 cl2 rfl w239 ?_
      refine z_iload_n C dX11_areOne_24 25 rfl 2 rfl rfl ?_
      obtain ⟨v25, hv25, hf⟩ := x_bind hf
      refine z_laload C dX11_areOne_25 26 rfl hv25 ?_
      refine z_lcmp C dX11_areOne_26 27 rfl ?_
      refine z_if_ne C dX11_areOne_27 51 (by decide) 30 rfl (fun hc => ?_) (fun hc => ?_)
      · have hf := (if_neg hc).symm.trans hf
        refine z_iconst C dX11_areOne_51 52 rfl 0 (by decide) ?_
        exact z_zret C rfl (hE _ (Option.some.inj hf).symm) ⟨Nat.le_of_ble_eq_true rfl, Nat.le_of_ble_eq_true rfl⟩ dX11_areOne_52
      · have hf := (if_pos hc).symm.trans hf
        refine z_aload_n C dX11_areOne_30 31 rfl 0 rfl rfl ?_
        obtain ⟨v31, hv31, hf⟩ := x_bind hf
        refine z_getR C dX11_areOne_31 34 rfl hv31 cl10 rfl w518 ?_
        obtain ⟨v34, hv34, hf⟩ := x_bind hf
        refine z_getR C dX11_areOne_34 37 rfl hv34 cl2 rfl w244 ?_
        refine z_iload_n C dX11_areOne_37 38 rfl 1 rfl rfl ?_
        obtain ⟨v38, hv38, hf⟩ := x_bind hf
        refine z_iaload C dX11_areOne_38 39 rfl hv38 ?_
        refine z_aload_n C dX11_areOne_39 40 rfl 0 rfl rfl ?_
        obtain ⟨v40, hv40, hf⟩ := x_bind hf
        refine z_getR C dX11_areOne_40 43 rfl hv40 cl10 rfl w518 ?_
        obtain ⟨v43, hv43, hf⟩ := x_bind hf
        refine z_getR C dX11_areOne_43 46 rfl hv43 cl2 rfl w244 ?_
        refine z_iload_n C dX11_areOne_46 47 rfl 2 rfl rfl ?_
        obtain ⟨v47, hv47, hf⟩ := x_bind hf
        refine z_iaload C dX11_areOne_47 48 rfl hv47 ?_
        refine z_icmp_eq C dX11_areOne_48 53 (by decide) 51 rfl (fun hc => ?_) (fun hc => ?_)
        · have hf := (if_pos hc).symm.trans hf
          refine z_aload_n C dX11_areOne_53 54 rfl 0 rfl rfl ?_
          obtain ⟨v54, hv54, hf⟩ := x_bind hf
          refine z_getR C dX11_areOne_54 57 rfl hv54 cl10 rfl w531 ?_
          refine z_iload_n C dX11_areOne_57 58 rfl 1 rfl rfl ?_
          obtain ⟨o58, ho58, hf⟩ := x_bind hf
          obtain ⟨w58, hw58, hf⟩ := x_bind hf
          refine z_callVv C dX11_areOne_58 61 rfl ho58 cl3.1 rfl (cX3_drawc hw58) kX3_draw kvX3_draw w1149 ⟨rfl, rfl⟩ ⟨Nat.le_of_ble_eq_true rfl, Nat.le_of_ble_eq_true rfl⟩ ⟨Nat.le_of_ble_eq_true rfl, Nat.le_of_ble_eq_true rfl⟩ rfl rfl (Nat.le_of_ble_eq_true rfl) ?_
          refine z_aload_n C dX11_areOne_61 62 rfl 0 rfl rfl ?_
          obtain ⟨v62, hv62, hf⟩ := x_bind hf
          refine z_getR C dX11_areOne_62 65 rfl hv62 cl10 rfl w532 ?_
          refine z_iload_n C dX11_areOne_65 66 rfl 2 rfl rfl ?_
          obtain ⟨o66, ho66, hf⟩ := x_bind hf
          obtain ⟨w66, hw66, hf⟩ := x_bind hf
          refine z_callVv C dX11_areOne_66 69 rfl ho66 cl3.1 rfl (cX3_drawc hw66) kX3_draw kvX3_draw w1149 ⟨rfl, rfl⟩ ⟨Nat.le_of_ble_eq_true rfl, Nat.le_of_ble_eq_true rfl⟩ ⟨Nat.le_of_ble_eq_true rfl, Nat.le_of_ble_eq_true rfl⟩ rfl rfl (Nat.le_of_ble_eq_true rfl) ?_
          refine z_aload_n C dX11_areOne_69 70 rfl 0 rfl rfl ?_
          obtain ⟨v70, hv70, hf⟩ := x_bind hf
          refine z_getR C dX11_areOne_70 73 rfl hv70 cl10 rfl w531 ?_
          refine z_aload_n C dX11_areOne_73 74 rfl 0 rfl rfl ?_
          obtain ⟨v74, hv74, hf⟩ := x_bind hf
          refine z_getR C dX11_areOne_74 77 rfl hv74 cl10 rfl w532 ?_
          obtain ⟨o77, ho77, hf⟩ := x_bind hf
          obtain ⟨w77, hw77, hf⟩ := x_bind hf
          refine z_callVi C dX11_areOne_77 80 rfl ho77 cl3.1 rfl (cX3_hasCanonOfc hw77) kX3_hasCanonOf kvX3_hasCanonOf w1426 ⟨rfl, rfl⟩ ⟨Nat.le_of_ble_eq_true rfl, Nat.le_of_ble_eq_true rfl⟩ ⟨Nat.le_of_ble_eq_true rfl, Nat.le_of_ble_eq_true rfl⟩ rfl rfl (Nat.le_of_ble_eq_true rfl) ?_
          obtain ⟨z80, hz80, hf⟩ := x_bind hf
          refine z_topi (zok_nar hz80).1 ?_
          exact z_zret C (zok_w hz80) (hE _ (Option.some.inj hf).symm) ⟨Nat.le_of_ble_eq_true rfl, Nat.le_of_ble_eq_true rfl⟩ dX11_areOne_80
        · have hf := (if_neg hc).symm.trans hf
          refine z_iconst C dX11_areOne_51 52 rfl 0 (by decide) ?_
          exact z_zret C rfl (hE _ (Option.some.inj hf).symm) ⟨Nat.le_of_ble_eq_true rfl, Nat.le_of_ble_eq_true rfl⟩ dX11_areOne_52
    | inr E5 =>
      dsimp only at hf
      exact z_cSt C O dX11_areOne_5 (cX11_needPlacec O.1 hw5) kX11_needPlace ksX11_needPlace w1111 ⟨rfl, rfl⟩ ⟨Nat.le_of_ble_eq_true rfl, Nat.le_of_ble_eq_true rfl⟩ ⟨Nat.le_of_ble_eq_true rfl, Nat.le_of_ble_eq_true rfl⟩ rfl rfl (Nat.le_of_ble_eq_true rfl) ⟨Nat.le_of_ble_eq_true rfl, Nat.le_of_ble_eq_true rfl⟩ (hE _ (Option.some.inj hf).symm)
  | inr E1 =>
    dsimp only at hf
    exact z_cSt C O dX11_areOne_1 (cX11_needPlacec O.1 hw1) kX11_needPlace ksX11_needPlace w1111 ⟨rfl, rfl⟩ ⟨Nat.le_of_ble_eq_true rfl, Nat.le_of_ble_eq_true rfl⟩ ⟨Nat.le_of_ble_eq_true rfl, Nat.le_of_ble_eq_true rfl⟩ rfl rfl (Nat.le_of_ble_eq_true rfl) ⟨Nat.le_of_ble_eq_true rfl, Nat.le_of_ble_eq_true rfl⟩ (hE _ (Option.some.inj hf).symm)
theorem dX11_needIndex_0 : decode cX11_needIndex 0 = .ok (.iload_n 0, 1) := by decide +kernel
theorem dX11_needIndex_1 : decode cX11_needIndex 1 = .ok (.ifCond .ge 14, 3) := by decide +kernel
theorem dX11_needIndex_4 : decode cX11_needIndex 4 = .ok (.new 166, 3) := by decide +kernel
theorem dX11_needIndex_7 : decode cX11_needIndex 7 = .ok (.dup, 1) := by decide +kernel
theorem dX11_needIndex_8 : decode cX11_needIndex 8 = .ok (.ldc_w 408, 3) := by decide +kernel
theorem dX11_needIndex_11 : decode cX11_needIndex 11 = .ok (.invokespecial 170, 3) := by decide +kernel
theorem dX11_needIndex_14 : decode cX11_needIndex 14 = .ok (.athrow, 1) := by decide +kernel
theorem dX11_needIndex_15 : decode cX11_needIndex 15 = .ok (.return_, 1) := by decide +kernel
abbrev rmX11_needIndex : Room := { frames := 7, cells := 1, slots := 6, locals := 120 }
noncomputable def fX11_needIndex (σ : St) (x0 : Int32) : Option ((Unit ⊕ String) × St) :=
if 0 ≤ x0 then
(some (Sum.inl (), σ))
else
(some (Sum.inr xNSE, σ))
set_option maxHeartbeats 4000000 in
set_option maxRecDepth 100000 in
theorem cX11_needIndexc {l : Launch} (hst : l.stackTraces = false) {adK adV : Nat → Nat} {G : xG} {A : Nat → Prop} {σ : St} {x0 : Int32} {c : (Unit ⊕ String) × St} (hf : fX11_needIndex σ x0 = some c) : ConX l yX11_needIndex (xws yX11_needIndex cX11_needIndex 1 none) rmX11_needIndex 1 6 [.int (x0)] adK adV G A σ (xoV c.1) c.2 := by
  refine z_start hst rfl (Nat.le_of_ble_eq_true rfl) (fun X _ _ _ C O hE0 => ?_)
  have hE : ∀ r, c = r → zE X 1 6 (xoV r.1) r.2 := fun r e => e ▸ hE0
  show Vz X (0, 0) σ 0 [(0, .int (x0))] []
  unfold fX11_needIndex at hf
  refine z_iload_n C dX11_needIndex_0 1 rfl 0 rfl rfl ?_
  refine z_if_ge C dX11_needIndex_1 15 (by decide) 4 rfl (fun hc => ?_) (fun hc => ?_)
  · have hf := (if_pos hc).symm.trans hf
    exact z_vret C (hE _ (Option.some.inj hf).symm) ⟨Nat.le_of_ble_eq_true rfl, Nat.le_of_ble_eq_true rfl⟩ dX11_needIndex_15
  · have hf := (if_neg hc).symm.trans hf
    exact z_nseSW C O fitNSE w1026 w152 hatNSE goodNSE (List.mem_of_getElem? (i := 8) rfl) dX11_needIndex_4 dX11_needIndex_7 dX11_needIndex_8 dX11_needIndex_11 dX11_needIndex_14 ⟨Nat.le_of_ble_eq_true rfl, Nat.le_of_ble_eq_true rfl⟩ ⟨Nat.le_of_ble_eq_true rfl, Nat.le_of_ble_eq_true rfl⟩ ⟨Nat.le_of_ble_eq_true rfl, Nat.le_of_ble_eq_true rfl⟩ (hE _ (Option.some.inj hf).symm)
theorem dX11_at_0 : decode cX11_at 0 = .ok (.iload_n 1, 1) := by decide +kernel
theorem dX11_at_1 : decode cX11_at 1 = .ok (.invokestatic 229, 3) := by decide +kernel
theorem dX11_at_4 : decode cX11_at 4 = .ok (.iload_n 2, 1) := by decide +kernel
theorem dX11_at_5 : decode cX11_at 5 = .ok (.invokestatic 176, 3) := by decide +kernel
theorem dX11_at_8 : decode cX11_at 8 = .ok (.aload_n 0, 1) := by decide +kernel
theorem dX11_at_9 : decode cX11_at 9 = .ok (.getfield 23, 3) := by decide +kernel
theorem dX11_at_12 : decode cX11_at 12 = .ok (.getfield 232, 3) := by decide +kernel
theorem dX11_at_15 : decode cX11_at 15 = .ok (.iload_n 1, 1) := by decide +kernel
theorem dX11_at_16 : decode cX11_at 16 = .ok (.laload, 1) := by decide +kernel
theorem dX11_at_17 : decode cX11_at 17 = .ok (.iload_n 2, 1) := by decide +kernel
theorem dX11_at_18 : decode cX11_at 18 = .ok (.invokestatic 186, 3) := by decide +kernel
theorem dX11_at_21 : decode cX11_at 21 = .ok (.ireturn, 1) := by decide +kernel
abbrev rmX11_at : Room := { frames := 8, cells := 2, slots := 12, locals := 140 }
noncomputable def fX11_at (σ : St) (x0 : Nat) (x1 : Int32) (x2 : Int32) : Option ((Int32 ⊕ String) × St) :=
(fX11_needPlace σ x1).bind fun w1 =>
(match w1 with
| (Sum.inl _, σ1) =>
(fX11_needIndex σ1 x2).bind fun w5 =>
(match w5 with
| (Sum.inl _, σ5) =>
(gR σ5 x0 10 3).bind fun v9 =>
(gR σ5 v9 2 2).bind fun v12 =>
(aL σ5 v12 x1).bind fun v16 =>
(fX10_letterOf v16 x2).bind fun w18 =>
some (Sum.inl w18, σ5)
| (Sum.inr E5, σ5) =>
some (Sum.inr E5, σ5))
| (Sum.inr E1, σ1) =>
some (Sum.inr E1, σ1))
set_option maxHeartbeats 4000000 in
set_option maxRecDepth 100000 in
theorem cX11_atc {l : Launch} (hst : l.stackTraces = false) {adK adV : Nat → Nat} {G : xG} {A : Nat → Prop} {σ : St} {x0 : Nat} {x1 : Int32} {x2 : Int32} {c : (Int32 ⊕ String) × St} (hf : fX11_at σ x0 x1 x2 = some c) : ConX l yX11_at (xws yX11_at cX11_at 3 (some .int)) rmX11_at 2 12 [.ref (x0), .int (x1), .int (x2)] adK adV G A σ (xoI c.1) c.2 := by
  refine z_start hst rfl (Nat.le_of_ble_eq_true rfl) (fun X _ _ _ C O hE0 => ?_)
  have hE : ∀ r, c = r → zE X 2 12 (xoI r.1) r.2 := fun r e => e ▸ hE0
  show Vz X (0, 0) σ 0 [(0, .ref (x0)), (1, .int (x1)), (2, .int (x2))] []
  unfold fX11_at at hf
  refine z_iload_n C dX11_at_0 1 rfl 1 rfl rfl ?_
  obtain ⟨⟨r1, σ1⟩, hw1, hf⟩ := x_bind hf
  cases r1 with
  | inl _ =>
    dsimp only at hf
    refine z_cSn C O.2.2 dX11_at_1 4 rfl (cX11_needPlacec O.1 hw1) kX11_needPlace ksX11_needPlace w1111 ⟨rfl, rfl⟩ ⟨Nat.le_of_ble_eq_true rfl, Nat.le_of_ble_eq_true rfl⟩ ⟨Nat.le_of_ble_eq_true rfl, Nat.le_of_ble_eq_true rfl⟩ rfl rfl (Nat.le_of_ble_eq_true rfl) (1, 6) rfl ?_
    refine z_iload_n C dX11_at_4 5 rfl 2 rfl rfl ?_
    obtain ⟨⟨r5, σ5⟩, hw5, hf⟩ := x_bind hf
    cases r5 with
    | inl _ =>
      dsimp only at hf
      refine z_cSn C O.2.2 dX11_at_5 8 rfl (cX11_needIndexc O.1 hw5) kX11_needIndex ksX11_needIndex w1054 ⟨rfl, rfl⟩ ⟨Nat.le_of_ble_eq_true rfl, Nat.le_of_ble_eq_true rfl⟩ ⟨Nat.le_of_ble_eq_true rfl, Nat.le_of_ble_eq_true rfl⟩ rfl rfl (Nat.le_of_ble_eq_true rfl) (2, 12) rfl ?_
      refine z_aload_n C dX11_at_8 9 rfl 0 rfl rfl ?_
      obtain ⟨v9, hv9, hf⟩ := x_bind hf
      refine z_getR C dX11_at_9 12 rfl hv9 cl10 rfl w518 ?_
      obtain ⟨v12, hv12, hf⟩ := x_bind hf
      refine z_getR C dX11_at_12 15 rfl hv12 cl2 rfl w241 ?_
      refine z_iload_n C dX11_at_15 16 rfl 1 rfl rfl ?_
      obtain ⟨v16, hv16, hf⟩ := x_bind hf
      refine z_laload C dX11_at_16 17 rfl hv16 ?_
      refine z_iload_n C dX11_at_17 18 rfl 2 rfl rfl ?_
      obtain ⟨w18, hw18, hf⟩ := x_bind hf
      refine z_callSi C dX11_at_18 21 rfl (cX10_letterOfc hw18) kX10_letterOf ksX10_letterOf w725 ⟨rfl, rfl⟩ ⟨Nat.le_of_ble_eq_true rfl, Nat.le_of_ble_eq_true rfl⟩ ⟨Nat.le_of_ble_eq_true rfl, Nat.le_of_ble_eq_true rfl⟩ rfl rfl (Nat.le_of_ble_eq_true rfl) ?_
      exact z_iret C (hE _ (Option.some.inj hf).symm) ⟨Nat.le_of_ble_eq_true rfl, Nat.le_of_ble_eq_true rfl⟩ dX11_at_21
    | inr E5 =>
      dsimp only at hf
      exact z_cSt C O dX11_at_5 (cX11_needIndexc O.1 hw5) kX11_needIndex ksX11_needIndex w1054 ⟨rfl, rfl⟩ ⟨Nat.le_of_ble_eq_true rfl, Nat.le_of_ble_eq_true rfl⟩ ⟨Nat.le_of_ble_eq_true rfl, Nat.le_of_ble_eq_true rfl⟩ rfl rfl (Nat.le_of_ble_eq_true rfl) ⟨Nat.le_of_ble_eq_true rfl, Nat.le_of_ble_eq_true rfl⟩ (hE _ (Option.some.inj hf).symm)
  | inr E1 =>
    dsimp only at hf
    exact z_cSt C O dX11_at_1 (cX11_needPlacec O.1 hw1) kX11_needPlace ksX11_needPlace w1111 ⟨rfl, rfl⟩ ⟨Nat.le_of_ble_eq_true rfl, Nat.le_of_ble_eq_true rfl⟩ ⟨Nat.le_of_ble_eq_true rfl, Nat.le_of_ble_eq_true rfl⟩ rfl rfl (Nat.le_of_ble_eq_true rfl) ⟨Nat.le_of_ble_eq_true rfl, Nat.le_of_ble_eq_true rfl⟩ (hE _ (Option.some.inj hf).symm)
theorem dX11_needBelow_0 : decode cX11_needBelow 0 = .ok (.iload_n 0, 1) := by decide +kernel
theorem dX11_needBelow_1 : decode cX11_needBelow 1 = .ok (.ifCond .lt 8, 3) := by decide +kernel
theorem dX11_needBelow_4 : decode cX11_needBelow 4 = .ok (.iload_n 0, 1) := by decide +kernel
theorem dX11_needBelow_5 : decode cX11_needBelow 5 = .ok (.iload_n 1, 1) := by decide +kernel
theorem dX11_needBelow_6 : decode cX11_needBelow 6 = .ok (.if_icmp .lt 14, 3) := by decide +kernel
theorem dX11_needBelow_9 : decode cX11_needBelow 9 = .ok (.new 166, 3) := by decide +kernel
theorem dX11_needBelow_12 : decode cX11_needBelow 12 = .ok (.dup, 1) := by decide +kernel
theorem dX11_needBelow_13 : decode cX11_needBelow 13 = .ok (.ldc_w 410, 3) := by decide +kernel
theorem dX11_needBelow_16 : decode cX11_needBelow 16 = .ok (.invokespecial 170, 3) := by decide +kernel
theorem dX11_needBelow_19 : decode cX11_needBelow 19 = .ok (.athrow, 1) := by decide +kernel
theorem dX11_needBelow_20 : decode cX11_needBelow 20 = .ok (.return_, 1) := by decide +kernel
abbrev rmX11_needBelow : Room := { frames := 7, cells := 1, slots := 6, locals := 120 }
noncomputable def fX11_needBelow (σ : St) (x0 : Int32) (x1 : Int32) : Option ((Unit ⊕ String) × St) :=
if x0 < 0 then
(some (Sum.inr xNSE, σ))
else
(if x0 < x1 then
(some (Sum.inl (), σ))
else
(some (Sum.inr xNSE, σ)))
set_option maxHeartbeats 4000000 in
set_option maxRecDepth 100000 in
theorem cX11_needBelowc {l : Launch} (hst : l.stackTraces = false) {adK adV : Nat → Nat} {G : xG} {A : Nat → Prop} {σ : St} {x0 : Int32} {x1 : Int32} {c : (Unit ⊕ String) × St} (hf : fX11_needBelow σ x0 x1 = some c) : ConX l yX11_needBelow (xws yX11_needBelow cX11_needBelow 2 none) rmX11_needBelow 1 6 [.int (x0), .int (x1)] adK adV G A σ (xoV c.1) c.2 := by
  refine z_start hst rfl (Nat.le_of_ble_eq_true rfl) (fun X _ _ _ C O hE0 => ?_)
  have hE : ∀ r, c = r → zE X 1 6 (xoV r.1) r.2 := fun r e => e ▸ hE0
  show Vz X (0, 0) σ 0 [(0, .int (x0)), (1, .int (x1))] []
  unfold fX11_needBelow at hf
  refine z_iload_n C dX11_needBelow_0 1 rfl 0 rfl rfl ?_
  refine z_if_lt C dX11_needBelow_1 9 (by decide) 4 rfl (fun hc => ?_) (fun hc => ?_)
  · have hf := (if_pos hc).symm.trans hf
    exact z_nseSW C O fitNSE w1026 w152 hatNSE goodNSE (List.mem_of_getElem? (i := 9) rfl) dX11_needBelow_9 dX11_needBelow_12 dX11_needBelow_13 dX11_needBelow_16 dX11_needBelow_19 ⟨Nat.le_of_ble_eq_true rfl, Nat.le_of_ble_eq_true rfl⟩ ⟨Nat.le_of_ble_eq_true rfl, Nat.le_of_ble_eq_true rfl⟩ ⟨Nat.le_of_ble_eq_true rfl, Nat.le_of_ble_eq_true rfl⟩ (hE _ (Option.some.inj hf).symm)
  · have hf := (if_neg hc).symm.trans hf
    refine z_iload_n C dX11_needBelow_4 5 rfl 0 rfl rfl ?_
    refine z_iload_n C dX11_needBelow_5 6 rfl 1 rfl rfl ?_
    refine z_icmp_lt C dX11_needBelow_6 20 (by decide) 9 rfl (fun hc => ?_) (fun hc => ?_)
    · have hf := (if_pos hc).symm.trans hf
      exact z_vret C (hE _ (Option.some.inj hf).symm) ⟨Nat.le_of_ble_eq_true rfl, Nat.le_of_ble_eq_true rfl⟩ dX11_needBelow_20
    · have hf := (if_neg hc).symm.trans hf
      exact z_nseSW C O fitNSE w1026 w152 hatNSE goodNSE (List.mem_of_getElem? (i := 9) rfl) dX11_needBelow_9 dX11_needBelow_12 dX11_needBelow_13 dX11_needBelow_16 dX11_needBelow_19 ⟨Nat.le_of_ble_eq_true rfl, Nat.le_of_ble_eq_true rfl⟩ ⟨Nat.le_of_ble_eq_true rfl, Nat.le_of_ble_eq_true rfl⟩ ⟨Nat.le_of_ble_eq_true rfl, Nat.le_of_ble_eq_true rfl⟩ (hE _ (Option.some.inj hf).symm)
theorem dX11_came_0 : decode cX11_came 0 = .ok (.iload_n 1, 1) := by decide +kernel
theorem dX11_came_1 : decode cX11_came 1 = .ok (.invokestatic 229, 3) := by decide +kernel
theorem dX11_came_4 : decode cX11_came 4 = .ok (.aload_n 0, 1) := by decide +kernel
theorem dX11_came_5 : decode cX11_came 5 = .ok (.getfield 77, 3) := by decide +kernel
theorem dX11_came_8 : decode cX11_came 8 = .ok (.aload_n 0, 1) := by decide +kernel
theorem dX11_came_9 : decode cX11_came 9 = .ok (.getfield 23, 3) := by decide +kernel
theorem dX11_came_12 : decode cX11_came 12 = .ok (.getfield 232, 3) := by decide +kernel
theorem dX11_came_15 : decode cX11_came 15 = .ok (.iload_n 1, 1) := by decide +kernel
theorem dX11_came_16 : decode cX11_came 16 = .ok (.laload, 1) := by decide +kernel
theorem dX11_came_17 : decode cX11_came 17 = .ok (.invokevirtual 235, 3) := by decide +kernel
theorem dX11_came_20 : decode cX11_came 20 = .ok (.iload_n 2, 1) := by decide +kernel
theorem dX11_came_21 : decode cX11_came 21 = .ok (.aload_n 0, 1) := by decide +kernel
theorem dX11_came_22 : decode cX11_came 22 = .ok (.getfield 77, 3) := by decide +kernel
theorem dX11_came_25 : decode cX11_came 25 = .ok (.getfield 253, 3) := by decide +kernel
theorem dX11_came_28 : decode cX11_came 28 = .ok (.invokestatic 297, 3) := by decide +kernel
theorem dX11_came_31 : decode cX11_came 31 = .ok (.aload_n 0, 1) := by decide +kernel
theorem dX11_came_32 : decode cX11_came 32 = .ok (.getfield 77, 3) := by decide +kernel
theorem dX11_came_35 : decode cX11_came 35 = .ok (.getfield 303, 3) := by decide +kernel
theorem dX11_came_38 : decode cX11_came 38 = .ok (.iload_n 2, 1) := by decide +kernel
theorem dX11_came_39 : decode cX11_came 39 = .ok (.iaload, 1) := by decide +kernel
theorem dX11_came_40 : decode cX11_came 40 = .ok (.ireturn, 1) := by decide +kernel
abbrev rmX11_came : Room := { frames := 8, cells := 2, slots := 12, locals := 141 }
noncomputable def fX11_came (σ : St) (x0 : Nat) (x1 : Int32) (x2 : Int32) : Option ((Int32 ⊕ String) × St) :=
(fX11_needPlace σ x1).bind fun w1 =>
(match w1 with
| (Sum.inl _, σ1) =>
(gR σ1 x0 10 10).bind fun v5 =>
(gR σ1 x0 10 3).bind fun v9 =>
(gR σ1 v9 2 2).bind fun v12 =>
(aL σ1 v12 x1).bind fun v16 =>
(isO σ1 v5 6).bind fun _ =>
(fX6_spread σ1 v5 v16).bind fun w17 =>
(gR w17 x0 10 10).bind fun v22 =>
(gI w17 v22 6 4).bind fun v25 =>
(fX11_needBelow w17 x2 v25).bind fun w28 =>
(match w28 with
| (Sum.inl _, σ28) =>
(gR σ28 x0 10 10).bind fun v32 =>
(gR σ28 v32 6 3).bind fun v35 =>
(aI σ28 v35 0 x2).bind fun v39 =>
some (Sum.inl v39, σ28)
| (Sum.inr E28, σ28) =>
some (Sum.inr E28, σ28))
| (Sum.inr E1, σ1) =>
some (Sum.inr E1, σ1))
set_option maxHeartbeats 4000000 in
set_option maxRecDepth 100000 in
theorem cX11_camec {l : Launch} (hst : l.stackTraces = false) {adK adV : Nat → Nat} {G : xG} {A : Nat → Prop} {σ : St} {x0 : Nat} {x1 : Int32} {x2 : Int32} {c : (Int32 ⊕ String) × St} (hf : fX11_came σ x0 x1 x2 = some c) : ConX l yX11_came (xws yX11_came cX11_came 3 (some .int)) rmX11_came 2 12 [.ref (x0), .int (x1), .int (x2)] adK adV G A σ (xoI c.1) c.2 := by
  refine z_start hst rfl (Nat.le_of_ble_eq_true rfl) (fun X _ _ _ C O hE0 => ?_)
  have hE : ∀ r, c = r → zE X 2 12 (xoI r.1) r.2 := fun r e => e ▸ hE0
  show Vz X (0, 0) σ 0 [(0, .ref (x0)), (1, .int (x1)), (2, .int (x2))] []
  unfold fX11_came at hf
  refine z_iload_n C dX11_came_0 1 rfl 1 rfl rfl ?_
  obtain ⟨⟨r1, σ1⟩, hw1, hf⟩ := x_bind hf
  cases r1 with
  | inl _ =>
    dsimp only at hf
    refine z_cSn C O.2.2 dX11_came_1 4 rfl (cX11_needPlacec O.1 hw1) kX11_needPlace ksX11_needPlace w1111 ⟨rfl, rfl⟩ ⟨Nat.le_of_ble_eq_true rfl, Nat.le_of_ble_eq_true rfl⟩ ⟨Nat.le_of_ble_eq_true rfl, Nat.le_of_ble_eq_true rfl⟩ rfl rfl (Nat.le_of_ble_eq_true rfl) (1, 6) rfl ?_
    refine z_aload_n C dX11_came_4 5 rfl 0 rfl rfl ?_
    obtain ⟨v5, hv5, hf⟩ := x_bind hf
    refine z_getR C dX11_came_5 8 rfl hv5 cl10 rfl w525 ?_
    refine z_aload_n C dX11_came_8 9 rfl 0 rfl rfl ?_
    obtain ⟨v9, hv9, hf⟩ := x_bind hf
    refine z_getR C dX11_came_9 12 rfl hv9 cl10 rfl w518 ?_
    obtain ⟨v12, hv12, hf⟩ := x_bind hf
    refine z_getR C dX11_came_12 15 rfl hv12 cl2 rfl w241 ?_
    refine z_iload_n C dX11_came_15 16 rfl 1 rfl rfl ?_
    obtain ⟨v16, hv16, hf⟩ := x_bind hf
    refine z_laload C dX11_came_16 17 rfl hv16 ?_
    obtain ⟨o17, ho17, hf⟩ := x_bind hf
    obtain ⟨w17, hw17, hf⟩ := x_bind hf
    refine z_callVv C dX11_came_17 20 rfl ho17 cl6.1 rfl (cX6_spreadc hw17) kX6_spread kvX6_spread w1114 ⟨rfl, rfl⟩ ⟨Nat.le_of_ble_eq_true rfl, Nat.le_of_ble_eq_true rfl⟩ ⟨Nat.le_of_ble_eq_true rfl, Nat.le_of_ble_eq_true rfl⟩ rfl rfl (Nat.le_of_ble_eq_true rfl) ?_
    refine z_iload_n C dX11_came_20 21 rfl 2 rfl rfl ?_
    refine z_aload_n C dX11_came_21 22 rfl 0 rfl rfl ?_
    obtain ⟨v22, hv22, hf⟩ := x_bind hf
    refine z_getR C dX11_came_22 25 rfl hv22 cl10 rfl w525 ?_
    obtain ⟨v25, hv25, hf⟩ := x_bind hf
    refine z_getI C dX11_came_25 28 rfl hv25 cl6 rfl w375 ?_
    obtain ⟨⟨r28, σ28⟩, hw28, hf⟩ := x_bind hf
    cases r28 with
    | inl _ =>
      dsimp only at hf
      refine z_cSn C O.2.2 dX11_came_28 31 rfl (cX11_needBelowc O.1 hw28) kX11_needBelow ksX11_needBelow w1250 ⟨rfl, rfl⟩ ⟨Nat.le_of_ble_eq_true rfl, Nat.le_of_ble_eq_true rfl⟩ ⟨Nat.le_of_ble_eq_true rfl, Nat.le_of_ble_eq_true rfl⟩ rfl rfl (Nat.le_of_ble_eq_true rfl) (2, 12) rfl ?_
      refine z_aload_n C dX11_came_31 32 rfl 0 rfl rfl ?_
      obtain ⟨v32, hv32, hf⟩ := x_bind hf
      refine z_getR C dX11_came_32 35 rfl hv32 cl10 rfl w525 ?_
      obtain ⟨v35, hv35, hf⟩ := x_bind hf
      refine z_getR C dX11_came_35 38 rfl hv35 cl6 rfl w373 ?_
      refine z_iload_n C dX11_came_38 39 rfl 2 rfl rfl ?_
      obtain ⟨v39, hv39, hf⟩ := x_bind hf
      refine z_iaload C dX11_came_39 40 rfl hv39 ?_
      exact z_iret C (hE _ (Option.some.inj hf).symm) ⟨Nat.le_of_ble_eq_true rfl, Nat.le_of_ble_eq_true rfl⟩ dX11_came_40
    | inr E28 =>
      dsimp only at hf
      exact z_cSt C O dX11_came_28 (cX11_needBelowc O.1 hw28) kX11_needBelow ksX11_needBelow w1250 ⟨rfl, rfl⟩ ⟨Nat.le_of_ble_eq_true rfl, Nat.le_of_ble_eq_true rfl⟩ ⟨Nat.le_of_ble_eq_true rfl, Nat.le_of_ble_eq_true rfl⟩ rfl rfl (Nat.le_of_ble_eq_true rfl) ⟨Nat.le_of_ble_eq_true rfl, Nat.le_of_ble_eq_true rfl⟩ (hE _ (Option.some.inj hf).symm)
  | inr E1 =>
    dsimp only at hf
    exact z_cSt C O dX11_came_1 (cX11_needPlacec O.1 hw1) kX11_needPlace ksX11_needPlace w1111 ⟨rfl, rfl⟩ ⟨Nat.le_of_ble_eq_true rfl, Nat.le_of_ble_eq_true rfl⟩ ⟨Nat.le_of_ble_eq_true rfl, Nat.le_of_ble_eq_true rfl⟩ rfl rfl (Nat.le_of_ble_eq_true rfl) ⟨Nat.le_of_ble_eq_true rfl, Nat.le_of_ble_eq_true rfl⟩ (hE _ (Option.some.inj hf).symm)
theorem dX11_needWhat_0 : decode cX11_needWhat 0 = .ok (.iload_n 0, 1) := by decide +kernel
theorem dX11_needWhat_1 : decode cX11_needWhat 1 = .ok (.ifCond .lt 8, 3) := by decide +kernel
theorem dX11_needWhat_4 : decode cX11_needWhat 4 = .ok (.iload_n 0, 1) := by decide +kernel
theorem dX11_needWhat_5 : decode cX11_needWhat 5 = .ok (.iload_n 1, 1) := by decide +kernel
theorem dX11_needWhat_6 : decode cX11_needWhat 6 = .ok (.if_icmp .le 14, 3) := by decide +kernel
theorem dX11_needWhat_9 : decode cX11_needWhat 9 = .ok (.new 166, 3) := by decide +kernel
theorem dX11_needWhat_12 : decode cX11_needWhat 12 = .ok (.dup, 1) := by decide +kernel
theorem dX11_needWhat_13 : decode cX11_needWhat 13 = .ok (.ldc_w 412, 3) := by decide +kernel
theorem dX11_needWhat_16 : decode cX11_needWhat 16 = .ok (.invokespecial 170, 3) := by decide +kernel
theorem dX11_needWhat_19 : decode cX11_needWhat 19 = .ok (.athrow, 1) := by decide +kernel
theorem dX11_needWhat_20 : decode cX11_needWhat 20 = .ok (.return_, 1) := by decide +kernel
abbrev rmX11_needWhat : Room := { frames := 7, cells := 1, slots := 6, locals := 120 }
noncomputable def fX11_needWhat (σ : St) (x0 : Int32) (x1 : Int32) : Option ((Unit ⊕ String) × St) :=
if x0 < 0 then
(some (Sum.inr xNSE, σ))
else
(if x0 ≤ x1 then
(some (Sum.inl (), σ))
else
(some (Sum.inr xNSE, σ)))
set_option maxHeartbeats 4000000 in
set_option maxRecDepth 100000 in
theorem cX11_needWhatc {l : Launch} (hst : l.stackTraces = false) {adK adV : Nat → Nat} {G : xG} {A : Nat → Prop} {σ : St} {x0 : Int32} {x1 : Int32} {c : (Unit ⊕ String) × St} (hf : fX11_needWhat σ x0 x1 = some c) : ConX l yX11_needWhat (xws yX11_needWhat cX11_needWhat 2 none) rmX11_needWhat 1 6 [.int (x0), .int (x1)] adK adV G A σ (xoV c.1) c.2 := by
  refine z_start hst rfl (Nat.le_of_ble_eq_true rfl) (fun X _ _ _ C O hE0 => ?_)
  have hE : ∀ r, c = r → zE X 1 6 (xoV r.1) r.2 := fun r e => e ▸ hE0
  show Vz X (0, 0) σ 0 [(0, .int (x0)), (1, .int (x1))] []
  unfold fX11_needWhat at hf
  refine z_iload_n C dX11_needWhat_0 1 rfl 0 rfl rfl ?_
  refine z_if_lt C dX11_needWhat_1 9 (by decide) 4 rfl (fun hc => ?_) (fun hc => ?_)
  · have hf := (if_pos hc).symm.trans hf
    exact z_nseSW C O fitNSE w1026 w152 hatNSE goodNSE (List.mem_of_getElem? (i := 10) rfl) dX11_needWhat_9 dX11_needWhat_12 dX11_needWhat_13 dX11_needWhat_16 dX11_needWhat_19 ⟨Nat.le_of_ble_eq_true rfl, Nat.le_of_ble_eq_true rfl⟩ ⟨Nat.le_of_ble_eq_true rfl, Nat.le_of_ble_eq_true rfl⟩ ⟨Nat.le_of_ble_eq_true rfl, Nat.le_of_ble_eq_true rfl⟩ (hE _ (Option.some.inj hf).symm)
  · have hf := (if_neg hc).symm.trans hf
    refine z_iload_n C dX11_needWhat_4 5 rfl 0 rfl rfl ?_
    refine z_iload_n C dX11_needWhat_5 6 rfl 1 rfl rfl ?_
    refine z_icmp_le C dX11_needWhat_6 20 (by decide) 9 rfl (fun hc => ?_) (fun hc => ?_)
    · have hf := (if_pos hc).symm.trans hf
      exact z_vret C (hE _ (Option.some.inj hf).symm) ⟨Nat.le_of_ble_eq_true rfl, Nat.le_of_ble_eq_true rfl⟩ dX11_needWhat_20
    · have hf := (if_neg hc).symm.trans hf
      exact z_nseSW C O fitNSE w1026 w152 hatNSE goodNSE (List.mem_of_getElem? (i := 10) rfl) dX11_needWhat_9 dX11_needWhat_12 dX11_needWhat_13 dX11_needWhat_16 dX11_needWhat_19 ⟨Nat.le_of_ble_eq_true rfl, Nat.le_of_ble_eq_true rfl⟩ ⟨Nat.le_of_ble_eq_true rfl, Nat.le_of_ble_eq_true rfl⟩ ⟨Nat.le_of_ble_eq_true rfl, Nat.le_of_ble_eq_true rfl⟩ (hE _ (Option.some.inj hf).symm)
theorem dX11_canon_0 : decode cX11_canon 0 = .ok (.iload_n 1, 1) := by decide +kernel
theorem dX11_canon_1 : decode cX11_canon 1 = .ok (.invokestatic 229, 3) := by decide +kernel
theorem dX11_canon_4 : decode cX11_canon 4 = .ok (.iload_n 2, 1) := by decide +kernel
theorem dX11_canon_5 : decode cX11_canon 5 = .ok (.aload_n 0, 1) := by decide +kernel
theorem dX11_canon_6 : decode cX11_canon 6 = .ok (.getfield 23, 3) := by decide +kernel
theorem dX11_canon_9 : decode cX11_canon 9 = .ok (.getfield 263, 3) := by decide +kernel
theorem dX11_canon_12 : decode cX11_canon 12 = .ok (.iload_n 1, 1) := by decide +kernel
theorem dX11_canon_13 : decode cX11_canon 13 = .ok (.iaload, 1) := by decide +kernel
theorem dX11_canon_14 : decode cX11_canon 14 = .ok (.invokestatic 297, 3) := by decide +kernel
theorem dX11_canon_17 : decode cX11_canon 17 = .ok (.iload_n 3, 1) := by decide +kernel
theorem dX11_canon_18 : decode cX11_canon 18 = .ok (.iconst 1, 1) := by decide +kernel
theorem dX11_canon_19 : decode cX11_canon 19 = .ok (.invokestatic 194, 3) := by decide +kernel
theorem dX11_canon_22 : decode cX11_canon 22 = .ok (.aload_n 0, 1) := by decide +kernel
theorem dX11_canon_23 : decode cX11_canon 23 = .ok (.getfield 109, 3) := by decide +kernel
theorem dX11_canon_26 : decode cX11_canon 26 = .ok (.iload_n 1, 1) := by decide +kernel
theorem dX11_canon_27 : decode cX11_canon 27 = .ok (.invokevirtual 266, 3) := by decide +kernel
theorem dX11_canon_30 : decode cX11_canon 30 = .ok (.iload_n 3, 1) := by decide +kernel
theorem dX11_canon_31 : decode cX11_canon 31 = .ok (.ifCond .ne 15, 3) := by decide +kernel
theorem dX11_canon_34 : decode cX11_canon 34 = .ok (.aload_n 0, 1) := by decide +kernel
theorem dX11_canon_35 : decode cX11_canon 35 = .ok (.getfield 109, 3) := by decide +kernel
theorem dX11_canon_38 : decode cX11_canon 38 = .ok (.getfield 386, 3) := by decide +kernel
theorem dX11_canon_41 : decode cX11_canon 41 = .ok (.iload_n 2, 1) := by decide +kernel
theorem dX11_canon_42 : decode cX11_canon 42 = .ok (.iaload, 1) := by decide +kernel
theorem dX11_canon_43 : decode cX11_canon 43 = .ok (.goto 12, 3) := by decide +kernel
theorem dX11_canon_46 : decode cX11_canon 46 = .ok (.aload_n 0, 1) := by decide +kernel
theorem dX11_canon_47 : decode cX11_canon 47 = .ok (.getfield 109, 3) := by decide +kernel
theorem dX11_canon_50 : decode cX11_canon 50 = .ok (.getfield 389, 3) := by decide +kernel
theorem dX11_canon_53 : decode cX11_canon 53 = .ok (.iload_n 2, 1) := by decide +kernel
theorem dX11_canon_54 : decode cX11_canon 54 = .ok (.iaload, 1) := by decide +kernel
theorem dX11_canon_55 : decode cX11_canon 55 = .ok (.ireturn, 1) := by decide +kernel
abbrev rmX11_canon : Room := { frames := 8, cells := 3, slots := 18, locals := 141 }
noncomputable def fX11_canon (σ : St) (x0 : Nat) (x1 : Int32) (x2 : Int32) (x3 : Int32) : Option ((Int32 ⊕ String) × St) :=
(fX11_needPlace σ x1).bind fun w1 =>
(match w1 with
| (Sum.inl _, σ1) =>
(gR σ1 x0 10 3).bind fun v6 =>
(gR σ1 v6 2 3).bind fun v9 =>
(aI σ1 v9 0 x1).bind fun v13 =>
(fX11_needBelow σ1 x2 v13).bind fun w14 =>
(match w14 with
| (Sum.inl _, σ14) =>
(fX11_needWhat σ14 x3 1).bind fun w19 =>
(match w19 with
| (Sum.inl _, σ19) =>
(gR σ19 x0 10 16).bind fun v23 =>
(isO σ19 v23 3).bind fun _ =>
(fX3_draw σ19 v23 x1).bind fun w27 =>
if x3 = 0 then
((gR w27 x0 10 16).bind fun v35 =>
(gR w27 v35 3 15).bind fun v38 =>
(aI w27 v38 0 x2).bind fun v42 =>
some (Sum.inl v42, w27))
else
((gR w27 x0 10 16).bind fun v47 =>
(gR w27 v47 3 16).bind fun v50 =>
(aI w27 v50 0 x2).bind fun v54 =>
some (Sum.inl v54, w27))
| (Sum.inr E19, σ19) =>
some (Sum.inr E19, σ19))
| (Sum.inr E14, σ14) =>
some (Sum.inr E14, σ14))
| (Sum.inr E1, σ1) =>
some (Sum.inr E1, σ1))
set_option maxHeartbeats 4000000 in
set_option maxRecDepth 100000 in
theorem cX11_canonc {l : Launch} (hst : l.stackTraces = false) {adK adV : Nat → Nat} {G : xG} {A : Nat → Prop} {σ : St} {x0 : Nat} {x1 : Int32} {x2 : Int32} {x3 : Int32} {c : (Int32 ⊕ String) × St} (hf : fX11_canon σ x0 x1 x2 x3 = some c) : ConX l yX11_canon (xws yX11_canon cX11_canon 4 (some .int)) rmX11_canon 3 18 [.ref (x0), .int (x1), .int (x2), .int (x3)] adK adV G A σ (xoI c.1) c.2 := by
  refine z_start hst rfl (Nat.le_of_ble_eq_true rfl) (fun X _ _ _ C O hE0 => ?_)
  have hE : ∀ r, c = r → zE X 3 18 (xoI r.1) r.2 := fun r e => e ▸ hE0
  show Vz X (0, 0) σ 0 [(0, .ref (x0)), (1, .int (x1)), (2, .int (x2)), (3, .int (x3))] []
  unfold fX11_canon at hf
  refine z_iload_n C dX11_canon_0 1 rfl 1 rfl rfl ?_
  obtain ⟨⟨r1, σ1⟩, hw1, hf⟩ := x_bind hf
  cases r1 with
  | inl _ =>
    dsimp only at hf
    refine z_cSn C O.2.2 dX11_canon_1 4 rfl (cX11_needPlacec O.1 hw1) kX11_needPlace ksX11_needPlace w1111 ⟨rfl, rfl⟩ ⟨Nat.le_of_ble_eq_true rfl, Nat.le_of_ble_eq_true rfl⟩ ⟨Nat.le_of_ble_eq_true rfl, Nat.le_of_ble_eq_true rfl⟩ rfl rfl (Nat.le_of_ble_eq_true rfl) (1, 6) rfl ?_
    refine z_iload_n C dX11_canon_4 5 rfl 2 rfl rfl ?_
    refine z_aload_n C dX11_canon_5 6 rfl 0 rfl rfl ?_
    obtain ⟨v6, hv6, hf⟩ := x_bind hf
    refine z_getR C dX11_canon_6 9 rfl hv6 cl10 rfl w518 ?_
    obtain ⟨v9, hv9, hf⟩ := x_bind hf
    refine z_getR C dX11_canon_9 12 rfl hv9 cl2 rfl w244 ?_
    refine z_iload_n C dX11_canon_12 13 rfl 1 rfl rfl ?_
    obtain ⟨v13, hv13, hf⟩ := x_bind hf
    refine z_iaload C dX11_canon_13 14 rfl hv13 ?_
    obtain ⟨⟨r14, σ14⟩, hw14, hf⟩ := x_bind hf
    cases r14 with
    | inl _ =>
      dsimp only at hf
      refine z_cSn C O.2.2 dX11_canon_14 17 rfl (cX11_needBelowc O.1 hw14) kX11_needBelow ksX11_needBelow w1250 ⟨rfl, rfl⟩ ⟨Nat.le_of_ble_eq_true rfl, Nat.le_of_ble_eq_true rfl⟩ ⟨Nat.le_of_ble_eq_true rfl, Nat.le_of_ble_eq_true rfl⟩ rfl rfl (Nat.le_of_ble_eq_true rfl) (2, 12) rfl ?_
      refine z_iload_n C dX11_canon_17 18 rfl 3 rfl rfl ?_
      refine z_iconst C dX11_canon_18 19 rfl 1 (by decide) ?_
      obtain ⟨⟨r19, σ19⟩, hw19, hf⟩ := x_bind hf
      cases r19 with
      | inl _ =>
        dsimp only at hf
        refine z_cSn C O.2.2 dX11_canon_19 22 rfl (cX11_needWhatc O.1 hw19) kX11_needWhat ksX11_needWhat w1066 ⟨rfl, rfl⟩ ⟨Nat.le_of_ble_eq_true rfl, Nat.le_of_ble_eq_true rfl⟩ ⟨Nat.le_of_ble_eq_true rfl, Nat.le_of_ble_eq_true rfl⟩ rfl rfl (Nat.le_of_ble_eq_true rfl) (3, 18) rfl ?_
        refine z_aload_n C dX11_canon_22 23 rfl 0 rfl rfl ?_
        obtain ⟨v23, hv23, hf⟩ := x_bind hf
        refine z_getR C dX11_canon_23 26 rfl hv23 cl10 rfl w531 ?_
        refine z_iload_n C dX11_canon_26 27 rfl 1 rfl rfl ?_
        obtain ⟨o27, ho27, hf⟩ := x_bind hf
        obtain ⟨w27, hw27, hf⟩ := x_bind hf
        refine z_callVv C dX11_canon_27 30 rfl ho27 cl3.1 rfl (cX3_drawc hw27) kX3_draw kvX3_draw w1149 ⟨rfl, rfl⟩ ⟨Nat.le_of_ble_eq_true rfl, Nat.le_of_ble_eq_true rfl⟩ ⟨Nat.le_of_ble_eq_true rfl, Nat.le_of_ble_eq_true rfl⟩ rfl rfl (Nat.le_of_ble_eq_true rfl) ?_
        refine z_iload_n C dX11_canon_30 31 rfl 3 rfl rfl ?_
        refine z_if_ne C dX11_canon_31 46 (by decide) 34 rfl (fun hc => ?_) (fun hc => ?_)
        · have hf := (if_neg hc).symm.trans hf
          refine z_aload_n C dX11_canon_46 47 rfl 0 rfl rfl ?_
          obtain ⟨v47, hv47, hf⟩ := x_bind hf
          refine z_getR C dX11_canon_47 50 rfl hv47 cl10 rfl w531 ?_
          obtain ⟨v50, hv50, hf⟩ := x_bind hf
          refine z_getR C dX11_canon_50 53 rfl hv50 cl3 rfl w479 ?_
          refine z_iload_n C dX11_canon_53 54 rfl 2 rfl rfl ?_
          obtain ⟨v54, hv54, hf⟩ := x_bind hf
          refine z_iaload C dX11_canon_54 55 rfl hv54 ?_
          exact z_iret C (hE _ (Option.some.inj hf).symm) ⟨Nat.le_of_ble_eq_true rfl, Nat.le_of_ble_eq_true rfl⟩ dX11_canon_55
        · have hf := (if_pos hc).symm.trans hf
          refine z_aload_n C dX11_canon_34 35 rfl 0 rfl rfl ?_
          obtain ⟨v35, hv35, hf⟩ := x_bind hf
          refine z_getR C dX11_canon_35 38 rfl hv35 cl10 rfl w531 ?_
          obtain ⟨v38, hv38, hf⟩ := x_bind hf
          refine z_getR C dX11_canon_38 41 rfl hv38 cl3 rfl w477 ?_
          refine z_iload_n C dX11_canon_41 42 rfl 2 rfl rfl ?_
          obtain ⟨v42, hv42, hf⟩ := x_bind hf
          refine z_iaload C dX11_canon_42 43 rfl hv42 ?_
          refine z_goto C dX11_canon_43 55 (by decide) ?_
          exact z_iret C (hE _ (Option.some.inj hf).symm) ⟨Nat.le_of_ble_eq_true rfl, Nat.le_of_ble_eq_true rfl⟩ dX11_canon_55
      | inr E19 =>
        dsimp only at hf
        exact z_cSt C O dX11_canon_19 (cX11_needWhatc O.1 hw19) kX11_needWhat ksX11_needWhat w1066 ⟨rfl, rfl⟩ ⟨Nat.le_of_ble_eq_true rfl, Nat.le_of_ble_eq_true rfl⟩ ⟨Nat.le_of_ble_eq_true rfl, Nat.le_of_ble_eq_true rfl⟩ rfl rfl (Nat.le_of_ble_eq_true rfl) ⟨Nat.le_of_ble_eq_true rfl, Nat.le_of_ble_eq_true rfl⟩ (hE _ (Option.some.inj hf).symm)
    | inr E14 =>
      dsimp only at hf
      exact z_cSt C O dX11_canon_14 (cX11_needBelowc O.1 hw14) kX11_needBelow ksX11_needBelow w1250 ⟨rfl, rfl⟩ ⟨Nat.le_of_ble_eq_true rfl, Nat.le_of_ble_eq_true rfl⟩ ⟨Nat.le_of_ble_eq_true rfl, Nat.le_of_ble_eq_true rfl⟩ rfl rfl (Nat.le_of_ble_eq_true rfl) ⟨Nat.le_of_ble_eq_true rfl, Nat.le_of_ble_eq_true rfl⟩ (hE _ (Option.some.inj hf).symm)
  | inr E1 =>
    dsimp only at hf
    exact z_cSt C O dX11_canon_1 (cX11_needPlacec O.1 hw1) kX11_needPlace ksX11_needPlace w1111 ⟨rfl, rfl⟩ ⟨Nat.le_of_ble_eq_true rfl, Nat.le_of_ble_eq_true rfl⟩ ⟨Nat.le_of_ble_eq_true rfl, Nat.le_of_ble_eq_true rfl⟩ rfl rfl (Nat.le_of_ble_eq_true rfl) ⟨Nat.le_of_ble_eq_true rfl, Nat.le_of_ble_eq_true rfl⟩ (hE _ (Option.some.inj hf).symm)
theorem dX11_close_0 : decode cX11_close 0 = .ok (.iload_n 1, 1) := by decide +kernel
theorem dX11_close_1 : decode cX11_close 1 = .ok (.iconst 1, 1) := by decide +kernel
theorem dX11_close_2 : decode cX11_close 2 = .ok (.if_icmp .lt 9, 3) := by decide +kernel
theorem dX11_close_5 : decode cX11_close 5 = .ok (.iload_n 1, 1) := by decide +kernel
theorem dX11_close_6 : decode cX11_close 6 = .ok (.bipush 10, 2) := by decide +kernel
theorem dX11_close_8 : decode cX11_close 8 = .ok (.if_icmp .le 14, 3) := by decide +kernel
theorem dX11_close_11 : decode cX11_close 11 = .ok (.new 207, 3) := by decide +kernel
theorem dX11_close_14 : decode cX11_close 14 = .ok (.dup, 1) := by decide +kernel
theorem dX11_close_15 : decode cX11_close 15 = .ok (.ldc_w 330, 3) := by decide +kernel
theorem dX11_close_18 : decode cX11_close 18 = .ok (.invokespecial 211, 3) := by decide +kernel
theorem dX11_close_21 : decode cX11_close 21 = .ok (.athrow, 1) := by decide +kernel
theorem dX11_close_22 : decode cX11_close 22 = .ok (.aload_n 0, 1) := by decide +kernel
theorem dX11_close_23 : decode cX11_close 23 = .ok (.getfield 23, 3) := by decide +kernel
theorem dX11_close_26 : decode cX11_close 26 = .ok (.getfield 52, 3) := by decide +kernel
theorem dX11_close_29 : decode cX11_close 29 = .ok (.invokevirtual 163, 3) := by decide +kernel
theorem dX11_close_32 : decode cX11_close 32 = .ok (.aload_n 0, 1) := by decide +kernel
theorem dX11_close_33 : decode cX11_close 33 = .ok (.getfield 23, 3) := by decide +kernel
theorem dX11_close_36 : decode cX11_close 36 = .ok (.getfield 52, 3) := by decide +kernel
theorem dX11_close_39 : decode cX11_close 39 = .ok (.getfield 148, 3) := by decide +kernel
theorem dX11_close_42 : decode cX11_close 42 = .ok (.if_icmp .ge 5, 3) := by decide +kernel
theorem dX11_close_45 : decode cX11_close 45 = .ok (.iconst (-1), 1) := by decide +kernel
theorem dX11_close_46 : decode cX11_close 46 = .ok (.ireturn, 1) := by decide +kernel
theorem dX11_close_47 : decode cX11_close 47 = .ok (.aload_n 0, 1) := by decide +kernel
theorem dX11_close_48 : decode cX11_close 48 = .ok (.getfield 37, 3) := by decide +kernel
theorem dX11_close_51 : decode cX11_close 51 = .ok (.aload_n 0, 1) := by decide +kernel
theorem dX11_close_52 : decode cX11_close 52 = .ok (.getfield 23, 3) := by decide +kernel
theorem dX11_close_55 : decode cX11_close 55 = .ok (.invokevirtual 218, 3) := by decide +kernel
theorem dX11_close_58 : decode cX11_close 58 = .ok (.iconst 0, 1) := by decide +kernel
theorem dX11_close_59 : decode cX11_close 59 = .ok (.istore_n 2, 1) := by decide +kernel
theorem dX11_close_60 : decode cX11_close 60 = .ok (.iload_n 2, 1) := by decide +kernel
theorem dX11_close_61 : decode cX11_close 61 = .ok (.iload_n 1, 1) := by decide +kernel
theorem dX11_close_62 : decode cX11_close 62 = .ok (.if_icmp .ge 51, 3) := by decide +kernel
theorem dX11_close_65 : decode cX11_close 65 = .ok (.aload_n 0, 1) := by decide +kernel
theorem dX11_close_66 : decode cX11_close 66 = .ok (.getfield 23, 3) := by decide +kernel
theorem dX11_close_69 : decode cX11_close 69 = .ok (.getfield 52, 3) := by decide +kernel
theorem dX11_close_72 : decode cX11_close 72 = .ok (.getfield 148, 3) := by decide +kernel
theorem dX11_close_75 : decode cX11_close 75 = .ok (.bipush 12, 2) := by decide +kernel
theorem dX11_close_77 : decode cX11_close 77 = .ok (.if_icmp .ge 13, 3) := by decide +kernel
theorem dX11_close_80 : decode cX11_close 80 = .ok (.aload_n 0, 1) := by decide +kernel
theorem dX11_close_81 : decode cX11_close 81 = .ok (.getfield 68, 3) := by decide +kernel
theorem dX11_close_84 : decode cX11_close 84 = .ok (.invokevirtual 332, 3) := by decide +kernel
theorem dX11_close_87 : decode cX11_close 87 = .ok (.goto 4, 3) := by decide +kernel
theorem dX11_close_90 : decode cX11_close 90 = .ok (.iconst (-1), 1) := by decide +kernel
theorem dX11_close_91 : decode cX11_close 91 = .ok (.istore_n 3, 1) := by decide +kernel
theorem dX11_close_92 : decode cX11_close 92 = .ok (.iload_n 3, 1) := by decide +kernel
theorem dX11_close_93 : decode cX11_close 93 = .ok (.iconst (-1), 1) := by decide +kernel
theorem dX11_close_94 : decode cX11_close 94 = .ok (.if_icmp .ne 5, 3) := by decide +kernel
theorem dX11_close_97 : decode cX11_close 97 = .ok (.iload_n 2, 1) := by decide +kernel
theorem dX11_close_98 : decode cX11_close 98 = .ok (.ireturn, 1) := by decide +kernel
theorem dX11_close_99 : decode cX11_close 99 = .ok (.aload_n 0, 1) := by decide +kernel
theorem dX11_close_100 : decode cX11_close 100 = .ok (.getfield 68, 3) := by decide +kernel
theorem dX11_close_103 : decode cX11_close 103 = .ok (.iload_n 3, 1) := by decide +kernel
theorem dX11_close_104 : decode cX11_close 104 = .ok (.invokevirtual 335, 3) := by decide +kernel
theorem dX11_close_107 : decode cX11_close 107 = .ok (.iinc 2 1, 3) := by decide +kernel
theorem dX11_close_110 : decode cX11_close 110 = .ok (.goto (-50), 3) := by decide +kernel
theorem dX11_close_113 : decode cX11_close 113 = .ok (.iload_n 1, 1) := by decide +kernel
theorem dX11_close_114 : decode cX11_close 114 = .ok (.ireturn, 1) := by decide +kernel
abbrev rmX11_close : Room := { frames := 7, cells := 1, slots := 6, locals := 211 }
noncomputable def fJX11_close_60_91 (σ : St) (x0 : Nat) (x1 : Int32) (x2 : Int32) (t0 : Int32) : Option ((Int32 × St) ⊕ ((Int32 × St) ⊕ (St))) :=
if t0 = (((-1) : Int32)) then
(some (Sum.inr (Sum.inl (x2, σ))))
else
((gR σ x0 10 9).bind fun v100 =>
(isO σ v100 5).bind fun _ =>
(fX5_addRuleOf σ v100 t0).bind fun w104 =>
xlet (x2 + 1) fun v107 =>
some (Sum.inl (v107, w104)))
set_option maxHeartbeats 4000000 in
set_option maxRecDepth 100000 in
theorem jnX11_close_60_91 {X : xX} {σ : St} {x0 : Nat} {x1 : Int32} {x2 : Int32} {t0 : Int32}  {c : (Int32 × St) ⊕ ((Int32 × St) ⊕ (St))} (C : Ok X cX11_close 4 RX11 rmX11_close (some .int)) {adK adV : Nat → Nat} (O : OkE X adK adV) (hf : fJX11_close_60_91 σ x0 x1 x2 t0 = some c) (hK : ∀ a', c = Sum.inl a' → Vz X (0, 0) a'.2 60 [(0, .ref (x0)), (1, .int (x1)), (2, .int (a'.1))] []) (hx0 : ∀ s, c = Sum.inr (Sum.inl s) → Vz X (0, 0) s.2 97 [(2, .int (s.1))] []) (hx1 : ∀ s, c = Sum.inr (Sum.inr s) → Vz X (0, 0) s 113 [(1, .int (x1))] []) : Vz X (0, 0) σ 91 [(0, .ref (x0)), (1, .int (x1)), (2, .int (x2))] [.int (t0)] := by
  unfold fJX11_close_60_91 at hf
  refine z_istore_n C dX11_close_91 92 rfl rfl rfl [(3, .int (t0)), (0, .ref (x0)), (1, .int (x1)), (2, .int (x2))] rfl ?_
  refine z_iload_n C dX11_close_92 93 rfl 0 rfl rfl ?_
  refine z_iconst C dX11_close_93 94 rfl (-1) (by decide) ?_
  refine z_icmp_ne C dX11_close_94 99 (by decide) 97 rfl (fun hc => ?_) (fun hc => ?_)
  · have hf := (if_neg hc).symm.trans hf
    refine z_aload_n C dX11_close_99 100 rfl 1 rfl rfl ?_
    obtain ⟨v100, hv100, hf⟩ := x_bind hf
    refine z_getR C dX11_close_100 103 rfl hv100 cl10 rfl w524 ?_
    refine z_iload_n C dX11_close_103 104 rfl 0 rfl rfl ?_
    obtain ⟨o104, ho104, hf⟩ := x_bind hf
    obtain ⟨w104, hw104, hf⟩ := x_bind hf
    refine z_callVv C dX11_close_104 107 rfl ho104 cl5.1 rfl (cX5_addRuleOfc hw104) kX5_addRuleOf kvX5_addRuleOf w1319 ⟨rfl, rfl⟩ ⟨Nat.le_of_ble_eq_true rfl, Nat.le_of_ble_eq_true rfl⟩ ⟨Nat.le_of_ble_eq_true rfl, Nat.le_of_ble_eq_true rfl⟩ rfl rfl (Nat.le_of_ble_eq_true rfl) ?_
    obtain ⟨v107, ev107, hf⟩ := xlet_some hf
    refine z_iinc C dX11_close_107 110 rfl 3 rfl v107 ev107 rfl [(2, .int (v107)), (3, .int (t0)), (0, .ref (x0)), (1, .int (x1))] rfl ?_
    refine z_goto C dX11_close_110 60 (by decide) ?_
    refine z_lv [2, 3, 0] (lv' := [(0, .ref (x0)), (1, .int (x1)), (2, .int (v107))]) rfl ?_
    exact hK _ (Option.some.inj hf).symm
  · have hf := (if_pos hc).symm.trans hf
    refine z_lv [3] (lv' := [(2, .int (x2))]) rfl ?_
    exact hx0 _ (Option.some.inj hf).symm
noncomputable def fLX11_close_60 (x0 : Nat) (x1 : Int32) (a : Int32 × St) : Option ((Int32 × St) ⊕ ((Int32 × St) ⊕ (St))) :=
if x1 ≤ a.1 then
(some (Sum.inr (Sum.inr a.2)))
else
((gR a.2 x0 10 3).bind fun v66 =>
(gR a.2 v66 2 0).bind fun v69 =>
(gI a.2 v69 8 1).bind fun v72 =>
if ((12 : Int32)) ≤ v72 then
(fJX11_close_60_91 a.2 x0 x1 a.1 (-1))
else
((gR a.2 x0 10 9).bind fun v81 =>
(isO a.2 v81 5).bind fun _ =>
(fX5_leastOpen a.2 v81).bind fun w84 =>
fJX11_close_60_91 w84.2 x0 x1 a.1 w84.1))
set_option maxHeartbeats 4000000 in
set_option maxRecDepth 100000 in
theorem lpX11_close_60 {X : xX} {x0 : Nat} {x1 : Int32}  {a0 : Int32 × St} {b : (Int32 × St) ⊕ (St)} (C : Ok X cX11_close 4 RX11 rmX11_close (some .int)) {adK adV : Nat → Nat} (O : OkE X adK adV) (hb : iterP (fLX11_close_60 x0 x1) a0 = some b) (hy0 : ∀ s, b = (Sum.inl s) → Vz X (0, 0) s.2 97 [(2, .int (s.1))] []) (hy1 : ∀ s, b = (Sum.inr s) → Vz X (0, 0) s 113 [(1, .int (x1))] []) : Vz X (0, 0) a0.2 60 [(0, .ref (x0)), (1, .int (x1)), (2, .int (a0.1))] [] := by
  obtain ⟨n, hn⟩ := iterP_some hb
  refine x_loop (P := fun a => Vz X (0, 0) a.2 60 [(0, .ref (x0)), (1, .int (x1)), (2, .int (a.1))] []) ?_ n a0 hn
  intro a c hf hK hxx
  have hx0 : ∀ s, c = Sum.inr (Sum.inl s) → Vz X (0, 0) s.2 97 [(2, .int (s.1))] [] := fun s e => hy0 s (hxx _ e).symm
  have hx1 : ∀ s, c = Sum.inr (Sum.inr s) → Vz X (0, 0) s 113 [(1, .int (x1))] [] := fun s e => hy1 s (hxx _ e).symm
  unfold fLX11_close_60 at hf
  refine z_iload_n C dX11_close_60 61 rfl 2 rfl rfl ?_
  refine z_iload_n C dX11_close_61 62 rfl 1 rfl rfl ?_
  refine z_icmp_ge C dX11_close_62 113 (by decide) 65 rfl (fun hc => ?_) (fun hc => ?_)
  · have hf := (if_pos hc).symm.trans hf
    refine z_lv [1] (lv' := [(1, .int (x1))]) rfl ?_
    exact hx1 _ (Option.some.inj hf).symm
  · have hf := (if_neg hc).symm.trans hf
    refine z_aload_n C dX11_close_65 66 rfl 0 rfl rfl ?_
    obtain ⟨v66, hv66, hf⟩ := x_bind hf
    refine z_getR C dX11_close_66 69 rfl hv66 cl10 rfl w518 ?_
    obtain ⟨v69, hv69, hf⟩ := x_bind hf
    refine z_getR C dX11_close_69 72 rfl hv69 cl2 rfl w235 ?_
    obtain ⟨v72, hv72, hf⟩ := x_bind hf
    refine z_getI C dX11_close_72 75 rfl hv72 cl8 rfl w187 ?_
    refine z_bipush C dX11_close_75 77 rfl 12 (by decide) ?_
    refine z_icmp_ge C dX11_close_77 90 (by decide) 80 rfl (fun hc => ?_) (fun hc => ?_)
    · have hf := (if_pos hc).symm.trans hf
      refine z_iconst C dX11_close_90 91 rfl (-1) (by decide) ?_
      exact jnX11_close_60_91 C O hf hK hx0 hx1
    · have hf := (if_neg hc).symm.trans hf
      refine z_aload_n C dX11_close_80 81 rfl 0 rfl rfl ?_
      obtain ⟨v81, hv81, hf⟩ := x_bind hf
      refine z_getR C dX11_close_81 84 rfl hv81 cl10 rfl w524 ?_
      obtain ⟨o84, ho84, hf⟩ := x_bind hf
      obtain ⟨w84, hw84, hf⟩ := x_bind hf
      refine z_callVi C dX11_close_84 87 rfl ho84 cl5.1 rfl (cX5_leastOpenc hw84) kX5_leastOpen kvX5_leastOpen w1314 ⟨rfl, rfl⟩ ⟨Nat.le_of_ble_eq_true rfl, Nat.le_of_ble_eq_true rfl⟩ ⟨Nat.le_of_ble_eq_true rfl, Nat.le_of_ble_eq_true rfl⟩ rfl rfl (Nat.le_of_ble_eq_true rfl) ?_
      refine z_goto C dX11_close_87 91 (by decide) ?_
      exact jnX11_close_60_91 C O hf hK hx0 hx1
noncomputable def fX11_close (σ : St) (x0 : Nat) (x1 : Int32) : Option ((Int32 ⊕ String) × St) :=
if x1 < ((1 : Int32)) then
(some (Sum.inr xIAE, σ))
else
(if x1 ≤ ((10 : Int32)) then
((gR σ x0 10 3).bind fun v23 =>
(gR σ v23 2 0).bind fun v26 =>
(isO σ v26 8).bind fun _ =>
(fX8_falling σ v26).bind fun w29 =>
(gR σ x0 10 3).bind fun v33 =>
(gR σ v33 2 0).bind fun v36 =>
(gI σ v36 8 1).bind fun v39 =>
if v39 ≤ w29 then
((gR σ x0 10 6).bind fun v48 =>
(gR σ x0 10 3).bind fun v52 =>
(isO σ v48 0).bind fun _ =>
(fX0_keep σ v48 v52).bind fun w55 =>
(iterP (fLX11_close_60 x0 x1) (0, w55)).bind fun b60 =>
(match b60 with
| .inl s60 =>
some (Sum.inl s60.1, s60.2)
| .inr s60 =>
some (Sum.inl x1, s60)))
else
(some (Sum.inl (-1), σ)))
else
(some (Sum.inr xIAE, σ)))
set_option maxHeartbeats 4000000 in
set_option maxRecDepth 100000 in
theorem cX11_closec {l : Launch} (hst : l.stackTraces = false) {adK adV : Nat → Nat} {G : xG} {A : Nat → Prop} {σ : St} {x0 : Nat} {x1 : Int32} {c : (Int32 ⊕ String) × St} (hf : fX11_close σ x0 x1 = some c) : ConX l yX11_close (xws yX11_close cX11_close 4 (some .int)) rmX11_close 1 6 [.ref (x0), .int (x1)] adK adV G A σ (xoI c.1) c.2 := by
  refine z_start hst rfl (Nat.le_of_ble_eq_true rfl) (fun X _ _ _ C O hE0 => ?_)
  have hE : ∀ r, c = r → zE X 1 6 (xoI r.1) r.2 := fun r e => e ▸ hE0
  show Vz X (0, 0) σ 0 [(0, .ref (x0)), (1, .int (x1))] []
  unfold fX11_close at hf
  refine z_iload_n C dX11_close_0 1 rfl 1 rfl rfl ?_
  refine z_iconst C dX11_close_1 2 rfl 1 (by decide) ?_
  refine z_icmp_lt C dX11_close_2 11 (by decide) 5 rfl (fun hc => ?_) (fun hc => ?_)
  · have hf := (if_pos hc).symm.trans hf
    exact z_throwSW C O fitIAE w767 w143 hatIAE goodIAE (List.mem_of_getElem? (i := 4) rfl) dX11_close_11 dX11_close_14 dX11_close_15 dX11_close_18 dX11_close_21 ⟨Nat.le_of_ble_eq_true rfl, Nat.le_of_ble_eq_true rfl⟩ ⟨Nat.le_of_ble_eq_true rfl, Nat.le_of_ble_eq_true rfl⟩ ⟨Nat.le_of_ble_eq_true rfl, Nat.le_of_ble_eq_true rfl⟩ (hE _ (Option.some.inj hf).symm)
  · have hf := (if_neg hc).symm.trans hf
    refine z_iload_n C dX11_close_5 6 rfl 1 rfl rfl ?_
    refine z_bipush C dX11_close_6 8 rfl 10 (by decide) ?_
    refine z_icmp_le C dX11_close_8 22 (by decide) 11 rfl (fun hc => ?_) (fun hc => ?_)
    · have hf := (if_pos hc).symm.trans hf
      refine z_aload_n C dX11_close_22 23 rfl 0 rfl rfl ?_
      obtain ⟨v23, hv23, hf⟩ := x_bind hf
      refine z_getR C dX11_close_23 26 rfl hv23 cl10 rfl w518 ?_
      obtain ⟨v26, hv26, hf⟩ := x_bind hf
      refine z_getR C dX11_close_26 29 rfl hv26 cl2 rfl w235 ?_
      obtain ⟨o29, ho29, hf⟩ := x_bind hf
      obtain ⟨w29, hw29, hf⟩ := x_bind hf
      refine z_callVi C dX11_close_29 32 rfl ho29 cl8.1 rfl (cX8_fallingc hw29) kX8_falling kvX8_falling w592 ⟨rfl, rfl⟩ ⟨Nat.le_of_ble_eq_true rfl, Nat.le_of_ble_eq_true rfl⟩ ⟨Nat.le_of_ble_eq_true rfl, Nat.le_of_ble_eq_true rfl⟩ rfl rfl (Nat.le_of_ble_eq_true rfl) ?_
      refine z_aload_n C dX11_close_32 33 rfl 0 rfl rfl ?_
      obtain ⟨v33, hv33, hf⟩ := x_bind hf
      refine z_getR C dX11_close_33 36 rfl hv33 cl10 rfl w518 ?_
      obtain ⟨v36, hv36, hf⟩ := x_bind hf
      refine z_getR C dX11_close_36 39 rfl hv36 cl2 rfl w235 ?_
      obtain ⟨v39, hv39, hf⟩ := x_bind hf
      refine z_getI C dX11_close_39 42 rfl hv39 cl8 rfl w187 ?_
      refine z_icmp_ge C dX11_close_42 47 (by decide) 45 rfl (fun hc => ?_) (fun hc => ?_)
      · have hf := (if_pos hc).symm.trans hf
        refine z_aload_n C dX11_close_47 48 rfl 0 rfl rfl ?_
        obtain ⟨v48, hv48, hf⟩ := x_bind hf
        refine z_getR C dX11_close_48 51 rfl hv48 cl10 rfl w521 ?_
        refine z_aload_n C dX11_close_51 52 rfl 0 rfl rfl ?_
        obtain ⟨v52, hv52, hf⟩ := x_bind hf
        refine z_getR C dX11_close_52 55 rfl hv52 cl10 rfl w518 ?_
        obtain ⟨o55, ho55, hf⟩ := x_bind hf
        obtain ⟨w55, hw55, hf⟩ := x_bind hf
        refine z_callVv C dX11_close_55 58 rfl ho55 cl0.1 rfl (cX0_keepc hw55) kX0_keep kvX0_keep w618 ⟨rfl, rfl⟩ ⟨Nat.le_of_ble_eq_true rfl, Nat.le_of_ble_eq_true rfl⟩ ⟨Nat.le_of_ble_eq_true rfl, Nat.le_of_ble_eq_true rfl⟩ rfl rfl (Nat.le_of_ble_eq_true rfl) ?_
        refine z_iconst C dX11_close_58 59 rfl 0 (by decide) ?_
        refine z_istore_n C dX11_close_59 60 rfl rfl rfl [(2, .int (0)), (0, .ref (x0)), (1, .int (x1))] rfl ?_
        obtain ⟨b60, hb60, hf⟩ := x_bind hf
        refine z_lv [1, 2, 0] (lv' := [(0, .ref (x0)), (1, .int (x1)), (2, .int (0))]) rfl ?_
        refine lpX11_close_60 C O hb60 (fun s60 e60 => ?_) (fun s60 e60 => ?_)
        · subst e60
          try dsimp only at hf
          refine z_iload_n C dX11_close_97 98 rfl 0 rfl rfl ?_
          exact z_iret C (hE _ (Option.some.inj hf).symm) ⟨Nat.le_of_ble_eq_true rfl, Nat.le_of_ble_eq_true rfl⟩ dX11_close_98
        · subst e60
          try dsimp only at hf
          refine z_iload_n C dX11_close_113 114 rfl 0 rfl rfl ?_
          exact z_iret C (hE _ (Option.some.inj hf).symm) ⟨Nat.le_of_ble_eq_true rfl, Nat.le_of_ble_eq_true rfl⟩ dX11_close_114
      · have hf := (if_neg hc).symm.trans hf
        refine z_iconst C dX11_close_45 46 rfl (-1) (by decide) ?_
        exact z_iret C (hE _ (Option.some.inj hf).symm) ⟨Nat.le_of_ble_eq_true rfl, Nat.le_of_ble_eq_true rfl⟩ dX11_close_46
    · have hf := (if_neg hc).symm.trans hf
      exact z_throwSW C O fitIAE w767 w143 hatIAE goodIAE (List.mem_of_getElem? (i := 4) rfl) dX11_close_11 dX11_close_14 dX11_close_15 dX11_close_18 dX11_close_21 ⟨Nat.le_of_ble_eq_true rfl, Nat.le_of_ble_eq_true rfl⟩ ⟨Nat.le_of_ble_eq_true rfl, Nat.le_of_ble_eq_true rfl⟩ ⟨Nat.le_of_ble_eq_true rfl, Nat.le_of_ble_eq_true rfl⟩ (hE _ (Option.some.inj hf).symm)
theorem dX11_compare_0 : decode cX11_compare 0 = .ok (.iload_n 1, 1) := by decide +kernel
theorem dX11_compare_1 : decode cX11_compare 1 = .ok (.invokestatic 229, 3) := by decide +kernel
theorem dX11_compare_4 : decode cX11_compare 4 = .ok (.iload_n 2, 1) := by decide +kernel
theorem dX11_compare_5 : decode cX11_compare 5 = .ok (.invokestatic 229, 3) := by decide +kernel
theorem dX11_compare_8 : decode cX11_compare 8 = .ok (.aload_n 0, 1) := by decide +kernel
theorem dX11_compare_9 : decode cX11_compare 9 = .ok (.getfield 23, 3) := by decide +kernel
theorem dX11_compare_12 : decode cX11_compare 12 = .ok (.getfield 52, 3) := by decide +kernel
theorem dX11_compare_15 : decode cX11_compare 15 = .ok (.aload_n 0, 1) := by decide +kernel
theorem dX11_compare_16 : decode cX11_compare 16 = .ok (.getfield 23, 3) := by decide +kernel
theorem dX11_compare_19 : decode cX11_compare 19 = .ok (.getfield 232, 3) := by decide +kernel
theorem dX11_compare_22 : decode cX11_compare 22 = .ok (.iload_n 1, 1) := by decide +kernel
theorem dX11_compare_23 : decode cX11_compare 23 = .ok (.laload, 1) := by decide +kernel
theorem dX11_compare_24 : decode cX11_compare 24 = .ok (.aload_n 0, 1) := by decide +kernel
theorem dX11_compare_25 : decode cX11_compare 25 = .ok (.getfield 23, 3) := by decide +kernel
theorem dX11_compare_28 : decode cX11_compare 28 = .ok (.getfield 232, 3) := by decide +kernel
theorem dX11_compare_31 : decode cX11_compare 31 = .ok (.iload_n 2, 1) := by decide +kernel
theorem dX11_compare_32 : decode cX11_compare 32 = .ok (.laload, 1) := by decide +kernel
theorem dX11_compare_33 : decode cX11_compare 33 = .ok (.invokevirtual 309, 3) := by decide +kernel
theorem dX11_compare_36 : decode cX11_compare 36 = .ok (.ireturn, 1) := by decide +kernel
abbrev rmX11_compare : Room := { frames := 8, cells := 2, slots := 12, locals := 140 }
noncomputable def fX11_compare (σ : St) (x0 : Nat) (x1 : Int32) (x2 : Int32) : Option ((Int32 ⊕ String) × St) :=
(fX11_needPlace σ x1).bind fun w1 =>
(match w1 with
| (Sum.inl _, σ1) =>
(fX11_needPlace σ1 x2).bind fun w5 =>
(match w5 with
| (Sum.inl _, σ5) =>
(gR σ5 x0 10 3).bind fun v9 =>
(gR σ5 v9 2 0).bind fun v12 =>
(gR σ5 x0 10 3).bind fun v16 =>
(gR σ5 v16 2 2).bind fun v19 =>
(aL σ5 v19 x1).bind fun v23 =>
(gR σ5 x0 10 3).bind fun v25 =>
(gR σ5 v25 2 2).bind fun v28 =>
(aL σ5 v28 x2).bind fun v32 =>
(isO σ5 v12 8).bind fun _ =>
(fX8_order σ5 v12 v23 v32).bind fun w33 =>
some (Sum.inl w33, σ5)
| (Sum.inr E5, σ5) =>
some (Sum.inr E5, σ5))
| (Sum.inr E1, σ1) =>
some (Sum.inr E1, σ1))
set_option maxHeartbeats 4000000 in
set_option maxRecDepth 100000 in
theorem cX11_comparec {l : Launch} (hst : l.stackTraces = false) {adK adV : Nat → Nat} {G : xG} {A : Nat → Prop} {σ : St} {x0 : Nat} {x1 : Int32} {x2 : Int32} {c : (Int32 ⊕ String) × St} (hf : fX11_compare σ x0 x1 x2 = some c) : ConX l yX11_compare (xws yX11_compare cX11_compare 3 (some .int)) rmX11_compare 2 12 [.ref (x0), .int (x1), .int (x2)] adK adV G A σ (xoI c.1) c.2 := by
  refine z_start hst rfl (Nat.le_of_ble_eq_true rfl) (fun X _ _ _ C O hE0 => ?_)
  have hE : ∀ r, c = r → zE X 2 12 (xoI r.1) r.2 := fun r e => e ▸ hE0
  show Vz X (0, 0) σ 0 [(0, .ref (x0)), (1, .int (x1)), (2, .int (x2))] []
  unfold fX11_compare at hf
  refine z_iload_n C dX11_compare_0 1 rfl 1 rfl rfl ?_
  obtain ⟨⟨r1, σ1⟩, hw1, hf⟩ := x_bind hf
  cases r1 with
  | inl _ =>
    dsimp only at hf
    refine z_cSn C O.2.2 dX11_compare_1 4 rfl (cX11_needPlacec O.1 hw1) kX11_needPlace ksX11_needPlace w1111 ⟨rfl, rfl⟩ ⟨Nat.le_of_ble_eq_true rfl, Nat.le_of_ble_eq_true rfl⟩ ⟨Nat.le_of_ble_eq_true rfl, Nat.le_of_ble_eq_true rfl⟩ rfl rfl (Nat.le_of_ble_eq_true rfl) (1, 6) rfl ?_
    refine z_iload_n C dX11_compare_4 5 rfl 2 rfl rfl ?_
    obtain ⟨⟨r5, σ5⟩, hw5, hf⟩ := x_bind hf
    cases r5 with
    | inl _ =>
      dsimp only at hf
      refine z_cSn C O.2.2 dX11_compare_5 8 rfl (cX11_needPlacec O.1 hw5) kX11_needPlace ksX11_needPlace w1111 ⟨rfl, rfl⟩ ⟨Nat.le_of_ble_eq_true rfl, Nat.le_of_ble_eq_true rfl⟩ ⟨Nat.le_of_ble_eq_true rfl, Nat.le_of_ble_eq_true rfl⟩ rfl rfl (Nat.le_of_ble_eq_true rfl) (2, 12) rfl ?_
      refine z_aload_n C dX11_compare_8 9 rfl 0 rfl rfl ?_
      obtain ⟨v9, hv9, hf⟩ := x_bind hf
      refine z_getR C dX11_compare_9 12 rfl hv9 cl10 rfl w518 ?_
      obtain ⟨v12, hv12, hf⟩ := x_bind hf
      refine z_getR C dX11_compare_12 15 rfl hv12 cl2 rfl w235 ?_
      refine z_aload_n C dX11_compare_15 16 rfl 0 rfl rfl ?_
      obtain ⟨v16, hv16, hf⟩ := x_bind hf
      refine z_getR C dX11_compare_16 19 rfl hv16 cl10 rfl w518 ?_
      obtain ⟨v19, hv19, hf⟩ := x_bind hf
      refine z_getR C dX11_compare_19 22 rfl hv19 cl2 rfl w241 ?_
      refine z_iload_n C dX11_compare_22 23 rfl 1 rfl rfl ?_
      obtain ⟨v23, hv23, hf⟩ := x_bind hf
      refine z_laload C dX11_compare_23 24 rfl hv23 ?_
      refine z_aload_n C dX11_compare_24 25 rfl 0 rfl rfl ?_
      obtain ⟨v25, hv25, hf⟩ := x_bind hf
      refine z_getR C dX11_compare_25 28 rfl hv25 cl10 rfl w518 ?_
      obtain ⟨v28, hv28, hf⟩ := x_bind hf
      refine z_getR C dX11_compare_28 31 rfl hv28 cl2 rfl w241 ?_
      refine z_iload_n C dX11_compare_31 32 rfl 2 rfl rfl ?_
      obtain ⟨v32, hv32, hf⟩ := x_bind hf
      refine z_laload C dX11_compare_32 33 rfl hv32 ?_
      obtain ⟨o33, ho33, hf⟩ := x_bind hf
      obtain ⟨w33, hw33, hf⟩ := x_bind hf
      refine z_callVi C dX11_compare_33 36 rfl ho33 cl8.1 rfl (cX8_orderc hw33) kX8_order kvX8_order w1286 ⟨rfl, rfl⟩ ⟨Nat.le_of_ble_eq_true rfl, Nat.le_of_ble_eq_true rfl⟩ ⟨Nat.le_of_ble_eq_true rfl, Nat.le_of_ble_eq_true rfl⟩ rfl rfl (Nat.le_of_ble_eq_true rfl) ?_
      exact z_iret C (hE _ (Option.some.inj hf).symm) ⟨Nat.le_of_ble_eq_true rfl, Nat.le_of_ble_eq_true rfl⟩ dX11_compare_36
    | inr E5 =>
      dsimp only at hf
      exact z_cSt C O dX11_compare_5 (cX11_needPlacec O.1 hw5) kX11_needPlace ksX11_needPlace w1111 ⟨rfl, rfl⟩ ⟨Nat.le_of_ble_eq_true rfl, Nat.le_of_ble_eq_true rfl⟩ ⟨Nat.le_of_ble_eq_true rfl, Nat.le_of_ble_eq_true rfl⟩ rfl rfl (Nat.le_of_ble_eq_true rfl) ⟨Nat.le_of_ble_eq_true rfl, Nat.le_of_ble_eq_true rfl⟩ (hE _ (Option.some.inj hf).symm)
  | inr E1 =>
    dsimp only at hf
    exact z_cSt C O dX11_compare_1 (cX11_needPlacec O.1 hw1) kX11_needPlace ksX11_needPlace w1111 ⟨rfl, rfl⟩ ⟨Nat.le_of_ble_eq_true rfl, Nat.le_of_ble_eq_true rfl⟩ ⟨Nat.le_of_ble_eq_true rfl, Nat.le_of_ble_eq_true rfl⟩ rfl rfl (Nat.le_of_ble_eq_true rfl) ⟨Nat.le_of_ble_eq_true rfl, Nat.le_of_ble_eq_true rfl⟩ (hE _ (Option.some.inj hf).symm)
theorem dX11_count_0 : decode cX11_count 0 = .ok (.iload_n 1, 1) := by decide +kernel
theorem dX11_count_1 : decode cX11_count 1 = .ok (.tableswitch 112 0 6 #[43, 54, 65, 73, 78, 93, 101], 43) := by decide +kernel
theorem dX11_count_44 : decode cX11_count 44 = .ok (.aload_n 0, 1) := by decide +kernel
theorem dX11_count_45 : decode cX11_count 45 = .ok (.getfield 23, 3) := by decide +kernel
theorem dX11_count_48 : decode cX11_count 48 = .ok (.getfield 52, 3) := by decide +kernel
theorem dX11_count_51 : decode cX11_count 51 = .ok (.getfield 151, 3) := by decide +kernel
theorem dX11_count_54 : decode cX11_count 54 = .ok (.ireturn, 1) := by decide +kernel
theorem dX11_count_55 : decode cX11_count 55 = .ok (.aload_n 0, 1) := by decide +kernel
theorem dX11_count_56 : decode cX11_count 56 = .ok (.getfield 23, 3) := by decide +kernel
theorem dX11_count_59 : decode cX11_count 59 = .ok (.getfield 52, 3) := by decide +kernel
theorem dX11_count_62 : decode cX11_count 62 = .ok (.getfield 148, 3) := by decide +kernel
theorem dX11_count_65 : decode cX11_count 65 = .ok (.ireturn, 1) := by decide +kernel
theorem dX11_count_66 : decode cX11_count 66 = .ok (.aload_n 0, 1) := by decide +kernel
theorem dX11_count_67 : decode cX11_count 67 = .ok (.getfield 37, 3) := by decide +kernel
theorem dX11_count_70 : decode cX11_count 70 = .ok (.getfield 154, 3) := by decide +kernel
theorem dX11_count_73 : decode cX11_count 73 = .ok (.ireturn, 1) := by decide +kernel
theorem dX11_count_74 : decode cX11_count 74 = .ok (.aload_n 0, 1) := by decide +kernel
theorem dX11_count_75 : decode cX11_count 75 = .ok (.getfield 13, 3) := by decide +kernel
theorem dX11_count_78 : decode cX11_count 78 = .ok (.ireturn, 1) := by decide +kernel
theorem dX11_count_79 : decode cX11_count 79 = .ok (.aload_n 0, 1) := by decide +kernel
theorem dX11_count_80 : decode cX11_count 80 = .ok (.getfield 68, 3) := by decide +kernel
theorem dX11_count_83 : decode cX11_count 83 = .ok (.invokevirtual 155, 3) := by decide +kernel
theorem dX11_count_86 : decode cX11_count 86 = .ok (.aload_n 0, 1) := by decide +kernel
theorem dX11_count_87 : decode cX11_count 87 = .ok (.getfield 68, 3) := by decide +kernel
theorem dX11_count_90 : decode cX11_count 90 = .ok (.getfield 158, 3) := by decide +kernel
theorem dX11_count_93 : decode cX11_count 93 = .ok (.ireturn, 1) := by decide +kernel
theorem dX11_count_94 : decode cX11_count 94 = .ok (.aload_n 0, 1) := by decide +kernel
theorem dX11_count_95 : decode cX11_count 95 = .ok (.getfield 68, 3) := by decide +kernel
theorem dX11_count_98 : decode cX11_count 98 = .ok (.invokevirtual 159, 3) := by decide +kernel
theorem dX11_count_101 : decode cX11_count 101 = .ok (.ireturn, 1) := by decide +kernel
theorem dX11_count_102 : decode cX11_count 102 = .ok (.aload_n 0, 1) := by decide +kernel
theorem dX11_count_103 : decode cX11_count 103 = .ok (.getfield 23, 3) := by decide +kernel
theorem dX11_count_106 : decode cX11_count 106 = .ok (.getfield 52, 3) := by decide +kernel
theorem dX11_count_109 : decode cX11_count 109 = .ok (.invokevirtual 163, 3) := by decide +kernel
theorem dX11_count_112 : decode cX11_count 112 = .ok (.ireturn, 1) := by decide +kernel
theorem dX11_count_113 : decode cX11_count 113 = .ok (.new 166, 3) := by decide +kernel
theorem dX11_count_116 : decode cX11_count 116 = .ok (.dup, 1) := by decide +kernel
theorem dX11_count_117 : decode cX11_count 117 = .ok (.ldc 168, 2) := by decide +kernel
theorem dX11_count_119 : decode cX11_count 119 = .ok (.invokespecial 170, 3) := by decide +kernel
theorem dX11_count_122 : decode cX11_count 122 = .ok (.athrow, 1) := by decide +kernel
abbrev rmX11_count : Room := { frames := 7, cells := 1, slots := 6, locals := 211 }
noncomputable def fX11_count (σ : St) (x0 : Nat) (x1 : Int32) : Option ((Int32 ⊕ String) × St) :=
if x1.toInt < 0 ∨ 6 < x1.toInt then
(some (Sum.inr xNSE, σ))
else
(if x1 = 0 then
((gR σ x0 10 3).bind fun v45 =>
(gR σ v45 2 0).bind fun v48 =>
(gI σ v48 8 0).bind fun v51 =>
some (Sum.inl v51, σ))
else
(if x1 = 1 then
((gR σ x0 10 3).bind fun v56 =>
(gR σ v56 2 0).bind fun v59 =>
(gI σ v59 8 1).bind fun v62 =>
some (Sum.inl v62, σ))
else
(if x1 = 2 then
((gR σ x0 10 6).bind fun v67 =>
(gI σ v67 0 2).bind fun v70 =>
some (Sum.inl v70, σ))
else
(if x1 = 3 then
((gI σ x0 10 1).bind fun v75 =>
some (Sum.inl v75, σ))
else
(if x1 = 4 then
((gR σ x0 10 9).bind fun v80 =>
(isO σ v80 5).bind fun _ =>
(fX5_gather σ v80).bind fun w83 =>
(gR w83 x0 10 9).bind fun v87 =>
(gI w83 v87 5 5).bind fun v90 =>
some (Sum.inl v90, w83))
else
(if x1 = 5 then
((gR σ x0 10 9).bind fun v95 =>
(isO σ v95 5).bind fun _ =>
(fX5_openOnes σ v95).bind fun w98 =>
some (Sum.inl w98.1, w98.2))
else
(if x1 = 6 then
((gR σ x0 10 3).bind fun v103 =>
(gR σ v103 2 0).bind fun v106 =>
(isO σ v106 8).bind fun _ =>
(fX8_falling σ v106).bind fun w109 =>
some (Sum.inl w109, σ))
else
none)))))))
set_option maxHeartbeats 4000000 in
set_option maxRecDepth 100000 in
theorem cX11_countc {l : Launch} (hst : l.stackTraces = false) {adK adV : Nat → Nat} {G : xG} {A : Nat → Prop} {σ : St} {x0 : Nat} {x1 : Int32} {c : (Int32 ⊕ String) × St} (hf : fX11_count σ x0 x1 = some c) : ConX l yX11_count (xws yX11_count cX11_count 2 (some .int)) rmX11_count 1 6 [.ref (x0), .int (x1)] adK adV G A σ (xoI c.1) c.2 := by
  refine z_start hst rfl (Nat.le_of_ble_eq_true rfl) (fun X _ _ _ C O hE0 => ?_)
  have hE : ∀ r, c = r → zE X 1 6 (xoI r.1) r.2 := fun r e => e ▸ hE0
  show Vz X (0, 0) σ 0 [(0, .ref (x0)), (1, .int (x1))] []
  unfold fX11_count at hf
  refine z_iload_n C dX11_count_0 1 rfl 1 rfl rfl ?_
  by_cases hc : x1.toInt < 0 ∨ 6 < x1.toInt
  · have hf := (if_pos hc).symm.trans hf
    refine z_tableOut C dX11_count_1 hc 113 (by decide) ?_
    exact z_nseS C O fitNSE w1026 w152 hatNSE goodNSE (List.mem_of_getElem? (i := 0) rfl) dX11_count_113 dX11_count_116 dX11_count_117 dX11_count_119 dX11_count_122 ⟨Nat.le_of_ble_eq_true rfl, Nat.le_of_ble_eq_true rfl⟩ ⟨Nat.le_of_ble_eq_true rfl, Nat.le_of_ble_eq_true rfl⟩ ⟨Nat.le_of_ble_eq_true rfl, Nat.le_of_ble_eq_true rfl⟩ (hE _ (Option.some.inj hf).symm)
  · have hf := (if_neg hc).symm.trans hf
    by_cases hj0 : x1 = 0
    · have hf := (if_pos hj0).symm.trans hf
      refine z_topi hj0 ?_
      refine z_tableIn C dX11_count_1 (by decide) (by decide) (off := 43) (by decide) 44 (by decide) ?_
      refine z_aload_n C dX11_count_44 45 rfl 0 rfl rfl ?_
      obtain ⟨v45, hv45, hf⟩ := x_bind hf
      refine z_getR C dX11_count_45 48 rfl hv45 cl10 rfl w518 ?_
      obtain ⟨v48, hv48, hf⟩ := x_bind hf
      refine z_getR C dX11_count_48 51 rfl hv48 cl2 rfl w235 ?_
      obtain ⟨v51, hv51, hf⟩ := x_bind hf
      refine z_getI C dX11_count_51 54 rfl hv51 cl8 rfl w180 ?_
      exact z_iret C (hE _ (Option.some.inj hf).symm) ⟨Nat.le_of_ble_eq_true rfl, Nat.le_of_ble_eq_true rfl⟩ dX11_count_54
    · have hf := (if_neg hj0).symm.trans hf
      by_cases hj1 : x1 = 1
      · have hf := (if_pos hj1).symm.trans hf
        refine z_topi hj1 ?_
        refine z_tableIn C dX11_count_1 (by decide) (by decide) (off := 54) (by decide) 55 (by decide) ?_
        refine z_aload_n C dX11_count_55 56 rfl 0 rfl rfl ?_
        obtain ⟨v56, hv56, hf⟩ := x_bind hf
        refine z_getR C dX11_count_56 59 rfl hv56 cl10 rfl w518 ?_
        obtain ⟨v59, hv59, hf⟩ := x_bind hf
        refine z_getR C dX11_count_59 62 rfl hv59 cl2 rfl w235 ?_
        obtain ⟨v62, hv62, hf⟩ := x_bind hf
        refine z_getI C dX11_count_62 65 rfl hv62 cl8 rfl w187 ?_
        exact z_iret C (hE _ (Option.some.inj hf).symm) ⟨Nat.le_of_ble_eq_true rfl, Nat.le_of_ble_eq_true rfl⟩ dX11_count_65
      · have hf := (if_neg hj1).symm.trans hf
        by_cases hj2 : x1 = 2
        · have hf := (if_pos hj2).symm.trans hf
          refine z_topi hj2 ?_
          refine z_tableIn C dX11_count_1 (by decide) (by decide) (off := 65) (by decide) 66 (by decide) ?_
          refine z_aload_n C dX11_count_66 67 rfl 0 rfl rfl ?_
          obtain ⟨v67, hv67, hf⟩ := x_bind hf
          refine z_getR C dX11_count_67 70 rfl hv67 cl10 rfl w521 ?_
          obtain ⟨v70, hv70, hf⟩ := x_bind hf
          refine z_getI C dX11_count_70 73 rfl hv70 cl0 rfl w269 ?_
          exact z_iret C (hE _ (Option.some.inj hf).symm) ⟨Nat.le_of_ble_eq_true rfl, Nat.le_of_ble_eq_true rfl⟩ dX11_count_73
        · have hf := (if_neg hj2).symm.trans hf
          by_cases hj3 : x1 = 3
          · have hf := (if_pos hj3).symm.trans hf
            refine z_topi hj3 ?_
            refine z_tableIn C dX11_count_1 (by decide) (by decide) (off := 73) (by decide) 74 (by decide) ?_
            refine z_aload_n C dX11_count_74 75 rfl 0 rfl rfl ?_
            obtain ⟨v75, hv75, hf⟩ := x_bind hf
            refine z_getI C dX11_count_75 78 rfl hv75 cl10 rfl w516 ?_
            exact z_iret C (hE _ (Option.some.inj hf).symm) ⟨Nat.le_of_ble_eq_true rfl, Nat.le_of_ble_eq_true rfl⟩ dX11_count_78
          · have hf := (if_neg hj3).symm.trans hf
            by_cases hj4 : x1 = 4
            · have hf := (if_pos hj4).symm.trans hf
              refine z_topi hj4 ?_
              refine z_tableIn C dX11_count_1 (by decide) (by decide) (off := 78) (by decide) 79 (by decide) ?_
              refine z_aload_n C dX11_count_79 80 rfl 0 rfl rfl ?_
              obtain ⟨v80, hv80, hf⟩ := x_bind hf
              refine z_getR C dX11_count_80 83 rfl hv80 cl10 rfl w524 ?_
              obtain ⟨o83, ho83, hf⟩ := x_bind hf
              obtain ⟨w83, hw83, hf⟩ := x_bind hf
              refine z_callVv C dX11_count_83 86 rfl ho83 cl5.1 rfl (cX5_gatherc hw83) kX5_gather kvX5_gather w977 ⟨rfl, rfl⟩ ⟨Nat.le_of_ble_eq_true rfl, Nat.le_of_ble_eq_true rfl⟩ ⟨Nat.le_of_ble_eq_true rfl, Nat.le_of_ble_eq_true rfl⟩ rfl rfl (Nat.le_of_ble_eq_true rfl) ?_
              refine z_aload_n C dX11_count_86 87 rfl 0 rfl rfl ?_
              obtain ⟨v87, hv87, hf⟩ := x_bind hf
              refine z_getR C dX11_count_87 90 rfl hv87 cl10 rfl w524 ?_
              obtain ⟨v90, hv90, hf⟩ := x_bind hf
              refine z_getI C dX11_count_90 93 rfl hv90 cl5 rfl w344 ?_
              exact z_iret C (hE _ (Option.some.inj hf).symm) ⟨Nat.le_of_ble_eq_true rfl, Nat.le_of_ble_eq_true rfl⟩ dX11_count_93
            · have hf := (if_neg hj4).symm.trans hf
              by_cases hj5 : x1 = 5
              · have hf := (if_pos hj5).symm.trans hf
                refine z_topi hj5 ?_
                refine z_tableIn C dX11_count_1 (by decide) (by decide) (off := 93) (by decide) 94 (by decide) ?_
                refine z_aload_n C dX11_count_94 95 rfl 0 rfl rfl ?_
                obtain ⟨v95, hv95, hf⟩ := x_bind hf
                refine z_getR C dX11_count_95 98 rfl hv95 cl10 rfl w524 ?_
                obtain ⟨o98, ho98, hf⟩ := x_bind hf
                obtain ⟨w98, hw98, hf⟩ := x_bind hf
                refine z_callVi C dX11_count_98 101 rfl ho98 cl5.1 rfl (cX5_openOnesc hw98) kX5_openOnes kvX5_openOnes w998 ⟨rfl, rfl⟩ ⟨Nat.le_of_ble_eq_true rfl, Nat.le_of_ble_eq_true rfl⟩ ⟨Nat.le_of_ble_eq_true rfl, Nat.le_of_ble_eq_true rfl⟩ rfl rfl (Nat.le_of_ble_eq_true rfl) ?_
                exact z_iret C (hE _ (Option.some.inj hf).symm) ⟨Nat.le_of_ble_eq_true rfl, Nat.le_of_ble_eq_true rfl⟩ dX11_count_101
              · have hf := (if_neg hj5).symm.trans hf
                by_cases hj6 : x1 = 6
                · have hf := (if_pos hj6).symm.trans hf
                  refine z_topi hj6 ?_
                  refine z_tableIn C dX11_count_1 (by decide) (by decide) (off := 101) (by decide) 102 (by decide) ?_
                  refine z_aload_n C dX11_count_102 103 rfl 0 rfl rfl ?_
                  obtain ⟨v103, hv103, hf⟩ := x_bind hf
                  refine z_getR C dX11_count_103 106 rfl hv103 cl10 rfl w518 ?_
                  obtain ⟨v106, hv106, hf⟩ := x_bind hf
                  refine z_getR C dX11_count_106 109 rfl hv106 cl2 rfl w235 ?_
                  obtain ⟨o109, ho109, hf⟩ := x_bind hf
                  obtain ⟨w109, hw109, hf⟩ := x_bind hf
                  refine z_callVi C dX11_count_109 112 rfl ho109 cl8.1 rfl (cX8_fallingc hw109) kX8_falling kvX8_falling w592 ⟨rfl, rfl⟩ ⟨Nat.le_of_ble_eq_true rfl, Nat.le_of_ble_eq_true rfl⟩ ⟨Nat.le_of_ble_eq_true rfl, Nat.le_of_ble_eq_true rfl⟩ rfl rfl (Nat.le_of_ble_eq_true rfl) ?_
                  exact z_iret C (hE _ (Option.some.inj hf).symm) ⟨Nat.le_of_ble_eq_true rfl, Nat.le_of_ble_eq_true rfl⟩ dX11_count_112
                · have hf := (if_neg hj6).symm.trans hf
                  cases hf
