/-! the law's own methods that catch -/
theorem dL_areKin_0 : decode cL_areKin 0 = .ok (.aload_n 3, 1) := by decide +kernel
theorem dL_areKin_1 : decode cL_areKin 1 = .ok (.iconst 0, 1) := by decide +kernel
theorem dL_areKin_2 : decode cL_areKin 2 = .ok (.aload_n 0, 1) := by decide +kernel
theorem dL_areKin_3 : decode cL_areKin 3 = .ok (.iload_n 1, 1) := by decide +kernel
theorem dL_areKin_4 : decode cL_areKin 4 = .ok (.iload_n 2, 1) := by decide +kernel
theorem dL_areKin_5 : decode cL_areKin 5 = .ok (.invokevirtual 81, 3) := by decide +kernel
theorem dL_areKin_8 : decode cL_areKin 8 = .ok (.ifCond .eq 7, 3) := by decide +kernel
theorem dL_areKin_11 : decode cL_areKin 11 = .ok (.lconst 1, 1) := by decide +kernel
theorem dL_areKin_12 : decode cL_areKin 12 = .ok (.goto 4, 3) := by decide +kernel
theorem dL_areKin_15 : decode cL_areKin 15 = .ok (.lconst 0, 1) := by decide +kernel
theorem dL_areKin_16 : decode cL_areKin 16 = .ok (.lastore, 1) := by decide +kernel
theorem dL_areKin_17 : decode cL_areKin 17 = .ok (.goto 7, 3) := by decide +kernel
theorem dL_areKin_20 : decode cL_areKin 20 = .ok (.astore 4, 2) := by decide +kernel
theorem dL_areKin_22 : decode cL_areKin 22 = .ok (.iconst 1, 1) := by decide +kernel
theorem dL_areKin_23 : decode cL_areKin 23 = .ok (.ireturn, 1) := by decide +kernel
theorem dL_areKin_24 : decode cL_areKin 24 = .ok (.iconst 0, 1) := by decide +kernel
theorem dL_areKin_25 : decode cL_areKin 25 = .ok (.ireturn, 1) := by decide +kernel
abbrev rmL_areKin : Room := { frames := 9, cells := 2, slots := 12, locals := 163 }
noncomputable def fL_areKin (σ : St) (x0 : Nat) (x1 : Int32) (x2 : Int32) (x3 : Nat) : Option (Int32 × St) :=
(isO σ x0 10).bind fun _ =>
(fX11_areKin σ x0 x1 x2).bind fun w5 =>
(match w5 with
| (Sum.inl x5r, σ5) =>
if x5r = 0 then
((sL σ5 x3 0 0).bind fun σ16 =>
some (0, σ16))
else
((sL σ5 x3 0 1).bind fun σ16 =>
some (0, σ16))
| (Sum.inr E5, σ5) =>
if E5 = xNSE then
(some (1, σ5))
else
(none))
set_option maxHeartbeats 4000000 in
set_option maxRecDepth 100000 in
theorem cL_areKinc {l : Launch} (hst : l.stackTraces = false) {adK adV : Nat → Nat} {G : xG} {A : Nat → Prop} {σ : St} {x0 : Nat} {x1 : Int32} {x2 : Int32} {x3 : Nat} {c : Int32 × St} (hf : fL_areKin σ x0 x1 x2 x3 = some c) : ConE l yL_areKin (xwsW yL_areKin cL_areKin 5 (some .int) [(0, 17, 20, 18)]) rmL_areKin 2 12 [.ref (x0), .int (x1), .int (x2), .ref (x3)] adK adV G A σ (some (.int c.1)) c.2 := by
  refine e_start hst rfl (Nat.le_of_ble_eq_true rfl) (fun X _ _ _ C O hE0 => ?_)
  have hE : ∀ r, c = r → eE X 2 12 (some (.int r.1)) r.2 := fun r e => e ▸ hE0
  show Vz X (0, 0) σ 0 [(0, .ref (x0)), (1, .int (x1)), (2, .int (x2)), (3, .ref (x3))] []
  unfold fL_areKin at hf
  refine z_aload_n C dL_areKin_0 1 rfl 3 rfl rfl ?_
  refine z_iconst C dL_areKin_1 2 rfl 0 (by decide) ?_
  refine z_aload_n C dL_areKin_2 3 rfl 0 rfl rfl ?_
  refine z_iload_n C dL_areKin_3 4 rfl 1 rfl rfl ?_
  refine z_iload_n C dL_areKin_4 5 rfl 2 rfl rfl ?_
  obtain ⟨o5, ho5, hf⟩ := x_bind hf
  obtain ⟨⟨r5, σ5⟩, hw5, hf⟩ := x_bind hf
  cases r5 with
  | inl x5r =>
    dsimp only at hf
    refine z_cVn C O.2.2 dL_areKin_5 8 rfl ho5 cl10.1 rfl (cX11_areKinc O.1 hw5) kX11_areKin kvX11_areKin w1400 ⟨rfl, rfl⟩ ⟨Nat.le_of_ble_eq_true rfl, Nat.le_of_ble_eq_true rfl⟩ ⟨Nat.le_of_ble_eq_true rfl, Nat.le_of_ble_eq_true rfl⟩ rfl rfl (Nat.le_of_ble_eq_true rfl) (2, 12) rfl ?_
    refine z_if_eq C dL_areKin_8 15 (by decide) 11 rfl (fun hc => ?_) (fun hc => ?_)
    · have hf := (if_pos hc).symm.trans hf
      refine z_lconst C dL_areKin_15 16 rfl 0 (by decide) ?_
      obtain ⟨σ16, hσ16, hf⟩ := x_bind hf
      refine z_lastore C dL_areKin_16 17 rfl hσ16 ?_
      refine z_goto C dL_areKin_17 24 (by decide) ?_
      refine z_iconst C dL_areKin_24 25 rfl 0 (by decide) ?_
      exact e_iret C (hE _ (Option.some.inj hf).symm) ⟨Nat.le_of_ble_eq_true rfl, Nat.le_of_ble_eq_true rfl⟩ dL_areKin_25
    · have hf := (if_neg hc).symm.trans hf
      refine z_lconst C dL_areKin_11 12 rfl 1 (by decide) ?_
      refine z_goto C dL_areKin_12 16 (by decide) ?_
      obtain ⟨σ16, hσ16, hf⟩ := x_bind hf
      refine z_lastore C dL_areKin_16 17 rfl hσ16 ?_
      refine z_goto C dL_areKin_17 24 (by decide) ?_
      refine z_iconst C dL_areKin_24 25 rfl 0 (by decide) ?_
      exact e_iret C (hE _ (Option.some.inj hf).symm) ⟨Nat.le_of_ble_eq_true rfl, Nat.le_of_ble_eq_true rfl⟩ dL_areKin_25
  | inr E5 =>
    dsimp only at hf
    by_cases hc0 : E5 = xNSE
    · subst hc0
      have hf := (if_pos rfl).symm.trans hf
      refine e_cVc C O.2.2 dL_areKin_5 ho5 cl10.1 rfl (cX11_areKinc O.1 hw5) kX11_areKin kvX11_areKin w1400 ⟨rfl, rfl⟩ ⟨Nat.le_of_ble_eq_true rfl, Nat.le_of_ble_eq_true rfl⟩ ⟨Nat.le_of_ble_eq_true rfl, Nat.le_of_ble_eq_true rfl⟩ rfl rfl (Nat.le_of_ble_eq_true rfl) [] ⟨0, 17, 20, 18⟩ [] O.2.1 (fun z hz => nomatch hz) (by decide) (by decide) w972 castNSE 20 rfl (2, 12) rfl (fun q5 => ?_)
      refine z_astore C dL_areKin_20 22 rfl rfl [(4, .ref (q5)), (0, .ref (x0)), (1, .int (x1)), (2, .int (x2)), (3, .ref (x3))] rfl ?_
      refine z_iconst C dL_areKin_22 23 rfl 1 (by decide) ?_
      exact e_iret C (hE _ (Option.some.inj hf).symm) ⟨Nat.le_of_ble_eq_true rfl, Nat.le_of_ble_eq_true rfl⟩ dL_areKin_23
    · have hf := (if_neg hc0).symm.trans hf
      cases hf
theorem dL_areOne_0 : decode cL_areOne 0 = .ok (.aload_n 3, 1) := by decide +kernel
theorem dL_areOne_1 : decode cL_areOne 1 = .ok (.iconst 0, 1) := by decide +kernel
theorem dL_areOne_2 : decode cL_areOne 2 = .ok (.aload_n 0, 1) := by decide +kernel
theorem dL_areOne_3 : decode cL_areOne 3 = .ok (.iload_n 1, 1) := by decide +kernel
theorem dL_areOne_4 : decode cL_areOne 4 = .ok (.iload_n 2, 1) := by decide +kernel
theorem dL_areOne_5 : decode cL_areOne 5 = .ok (.invokevirtual 91, 3) := by decide +kernel
theorem dL_areOne_8 : decode cL_areOne 8 = .ok (.ifCond .eq 7, 3) := by decide +kernel
theorem dL_areOne_11 : decode cL_areOne 11 = .ok (.lconst 1, 1) := by decide +kernel
theorem dL_areOne_12 : decode cL_areOne 12 = .ok (.goto 4, 3) := by decide +kernel
theorem dL_areOne_15 : decode cL_areOne 15 = .ok (.lconst 0, 1) := by decide +kernel
theorem dL_areOne_16 : decode cL_areOne 16 = .ok (.lastore, 1) := by decide +kernel
theorem dL_areOne_17 : decode cL_areOne 17 = .ok (.goto 7, 3) := by decide +kernel
theorem dL_areOne_20 : decode cL_areOne 20 = .ok (.astore 4, 2) := by decide +kernel
theorem dL_areOne_22 : decode cL_areOne 22 = .ok (.iconst 1, 1) := by decide +kernel
theorem dL_areOne_23 : decode cL_areOne 23 = .ok (.ireturn, 1) := by decide +kernel
theorem dL_areOne_24 : decode cL_areOne 24 = .ok (.iconst 0, 1) := by decide +kernel
theorem dL_areOne_25 : decode cL_areOne 25 = .ok (.ireturn, 1) := by decide +kernel
abbrev rmL_areOne : Room := { frames := 9, cells := 2, slots := 12, locals := 162 }
noncomputable def fL_areOne (σ : St) (x0 : Nat) (x1 : Int32) (x2 : Int32) (x3 : Nat) : Option (Int32 × St) :=
(isO σ x0 10).bind fun _ =>
(fX11_areOne σ x0 x1 x2).bind fun w5 =>
(match w5 with
| (Sum.inl x5r, σ5) =>
if x5r = 0 then
((sL σ5 x3 0 0).bind fun σ16 =>
some (0, σ16))
else
((sL σ5 x3 0 1).bind fun σ16 =>
some (0, σ16))
| (Sum.inr E5, σ5) =>
if E5 = xNSE then
(some (1, σ5))
else
(none))
set_option maxHeartbeats 4000000 in
set_option maxRecDepth 100000 in
theorem cL_areOnec {l : Launch} (hst : l.stackTraces = false) {adK adV : Nat → Nat} {G : xG} {A : Nat → Prop} {σ : St} {x0 : Nat} {x1 : Int32} {x2 : Int32} {x3 : Nat} {c : Int32 × St} (hf : fL_areOne σ x0 x1 x2 x3 = some c) : ConE l yL_areOne (xwsW yL_areOne cL_areOne 5 (some .int) [(0, 17, 20, 18)]) rmL_areOne 2 12 [.ref (x0), .int (x1), .int (x2), .ref (x3)] adK adV G A σ (some (.int c.1)) c.2 := by
  refine e_start hst rfl (Nat.le_of_ble_eq_true rfl) (fun X _ _ _ C O hE0 => ?_)
  have hE : ∀ r, c = r → eE X 2 12 (some (.int r.1)) r.2 := fun r e => e ▸ hE0
  show Vz X (0, 0) σ 0 [(0, .ref (x0)), (1, .int (x1)), (2, .int (x2)), (3, .ref (x3))] []
  unfold fL_areOne at hf
  refine z_aload_n C dL_areOne_0 1 rfl 3 rfl rfl ?_
  refine z_iconst C dL_areOne_1 2 rfl 0 (by decide) ?_
  refine z_aload_n C dL_areOne_2 3 rfl 0 rfl rfl ?_
  refine z_iload_n C dL_areOne_3 4 rfl 1 rfl rfl ?_
  refine z_iload_n C dL_areOne_4 5 rfl 2 rfl rfl ?_
  obtain ⟨o5, ho5, hf⟩ := x_bind hf
  obtain ⟨⟨r5, σ5⟩, hw5, hf⟩ := x_bind hf
  cases r5 with
  | inl x5r =>
    dsimp only at hf
    refine z_cVn C O.2.2 dL_areOne_5 8 rfl ho5 cl10.1 rfl (cX11_areOnec O.1 hw5) kX11_areOne kvX11_areOne w1422 ⟨rfl, rfl⟩ ⟨Nat.le_of_ble_eq_true rfl, Nat.le_of_ble_eq_true rfl⟩ ⟨Nat.le_of_ble_eq_true rfl, Nat.le_of_ble_eq_true rfl⟩ rfl rfl (Nat.le_of_ble_eq_true rfl) (2, 12) rfl ?_
    refine z_if_eq C dL_areOne_8 15 (by decide) 11 rfl (fun hc => ?_) (fun hc => ?_)
    · have hf := (if_pos hc).symm.trans hf
      refine z_lconst C dL_areOne_15 16 rfl 0 (by decide) ?_
      obtain ⟨σ16, hσ16, hf⟩ := x_bind hf
      refine z_lastore C dL_areOne_16 17 rfl hσ16 ?_
      refine z_goto C dL_areOne_17 24 (by decide) ?_
      refine z_iconst C dL_areOne_24 25 rfl 0 (by decide) ?_
      exact e_iret C (hE _ (Option.some.inj hf).symm) ⟨Nat.le_of_ble_eq_true rfl, Nat.le_of_ble_eq_true rfl⟩ dL_areOne_25
    · have hf := (if_neg hc).symm.trans hf
      refine z_lconst C dL_areOne_11 12 rfl 1 (by decide) ?_
      refine z_goto C dL_areOne_12 16 (by decide) ?_
      obtain ⟨σ16, hσ16, hf⟩ := x_bind hf
      refine z_lastore C dL_areOne_16 17 rfl hσ16 ?_
      refine z_goto C dL_areOne_17 24 (by decide) ?_
      refine z_iconst C dL_areOne_24 25 rfl 0 (by decide) ?_
      exact e_iret C (hE _ (Option.some.inj hf).symm) ⟨Nat.le_of_ble_eq_true rfl, Nat.le_of_ble_eq_true rfl⟩ dL_areOne_25
  | inr E5 =>
    dsimp only at hf
    by_cases hc0 : E5 = xNSE
    · subst hc0
      have hf := (if_pos rfl).symm.trans hf
      refine e_cVc C O.2.2 dL_areOne_5 ho5 cl10.1 rfl (cX11_areOnec O.1 hw5) kX11_areOne kvX11_areOne w1422 ⟨rfl, rfl⟩ ⟨Nat.le_of_ble_eq_true rfl, Nat.le_of_ble_eq_true rfl⟩ ⟨Nat.le_of_ble_eq_true rfl, Nat.le_of_ble_eq_true rfl⟩ rfl rfl (Nat.le_of_ble_eq_true rfl) [] ⟨0, 17, 20, 18⟩ [] O.2.1 (fun z hz => nomatch hz) (by decide) (by decide) w972 castNSE 20 rfl (2, 12) rfl (fun q5 => ?_)
      refine z_astore C dL_areOne_20 22 rfl rfl [(4, .ref (q5)), (0, .ref (x0)), (1, .int (x1)), (2, .int (x2)), (3, .ref (x3))] rfl ?_
      refine z_iconst C dL_areOne_22 23 rfl 1 (by decide) ?_
      exact e_iret C (hE _ (Option.some.inj hf).symm) ⟨Nat.le_of_ble_eq_true rfl, Nat.le_of_ble_eq_true rfl⟩ dL_areOne_23
    · have hf := (if_neg hc0).symm.trans hf
      cases hf
theorem dL_at_0 : decode cL_at 0 = .ok (.aload_n 3, 1) := by decide +kernel
theorem dL_at_1 : decode cL_at 1 = .ok (.iconst 0, 1) := by decide +kernel
theorem dL_at_2 : decode cL_at 2 = .ok (.aload_n 0, 1) := by decide +kernel
theorem dL_at_3 : decode cL_at 3 = .ok (.iload_n 1, 1) := by decide +kernel
theorem dL_at_4 : decode cL_at 4 = .ok (.iload_n 2, 1) := by decide +kernel
theorem dL_at_5 : decode cL_at 5 = .ok (.invokevirtual 34, 3) := by decide +kernel
theorem dL_at_8 : decode cL_at 8 = .ok (.i2l, 1) := by decide +kernel
theorem dL_at_9 : decode cL_at 9 = .ok (.lastore, 1) := by decide +kernel
theorem dL_at_10 : decode cL_at 10 = .ok (.goto 7, 3) := by decide +kernel
theorem dL_at_13 : decode cL_at 13 = .ok (.astore 4, 2) := by decide +kernel
theorem dL_at_15 : decode cL_at 15 = .ok (.iconst 1, 1) := by decide +kernel
theorem dL_at_16 : decode cL_at 16 = .ok (.ireturn, 1) := by decide +kernel
theorem dL_at_17 : decode cL_at 17 = .ok (.iconst 0, 1) := by decide +kernel
theorem dL_at_18 : decode cL_at 18 = .ok (.ireturn, 1) := by decide +kernel
abbrev rmL_at : Room := { frames := 9, cells := 2, slots := 12, locals := 162 }
noncomputable def fL_at (σ : St) (x0 : Nat) (x1 : Int32) (x2 : Int32) (x3 : Nat) : Option (Int32 × St) :=
(isO σ x0 10).bind fun _ =>
(fX11_at σ x0 x1 x2).bind fun w5 =>
(match w5 with
| (Sum.inl x5r, σ5) =>
(sL σ5 x3 0 x5r.toInt64).bind fun σ9 =>
some (0, σ9)
| (Sum.inr E5, σ5) =>
if E5 = xNSE then
(some (1, σ5))
else
(none))
set_option maxHeartbeats 4000000 in
set_option maxRecDepth 100000 in
theorem cL_atc {l : Launch} (hst : l.stackTraces = false) {adK adV : Nat → Nat} {G : xG} {A : Nat → Prop} {σ : St} {x0 : Nat} {x1 : Int32} {x2 : Int32} {x3 : Nat} {c : Int32 × St} (hf : fL_at σ x0 x1 x2 x3 = some c) : ConE l yL_at (xwsW yL_at cL_at 5 (some .int) [(0, 10, 13, 18)]) rmL_at 2 12 [.ref (x0), .int (x1), .int (x2), .ref (x3)] adK adV G A σ (some (.int c.1)) c.2 := by
  refine e_start hst rfl (Nat.le_of_ble_eq_true rfl) (fun X _ _ _ C O hE0 => ?_)
  have hE : ∀ r, c = r → eE X 2 12 (some (.int r.1)) r.2 := fun r e => e ▸ hE0
  show Vz X (0, 0) σ 0 [(0, .ref (x0)), (1, .int (x1)), (2, .int (x2)), (3, .ref (x3))] []
  unfold fL_at at hf
  refine z_aload_n C dL_at_0 1 rfl 3 rfl rfl ?_
  refine z_iconst C dL_at_1 2 rfl 0 (by decide) ?_
  refine z_aload_n C dL_at_2 3 rfl 0 rfl rfl ?_
  refine z_iload_n C dL_at_3 4 rfl 1 rfl rfl ?_
  refine z_iload_n C dL_at_4 5 rfl 2 rfl rfl ?_
  obtain ⟨o5, ho5, hf⟩ := x_bind hf
  obtain ⟨⟨r5, σ5⟩, hw5, hf⟩ := x_bind hf
  cases r5 with
  | inl x5r =>
    dsimp only at hf
    refine z_cVn C O.2.2 dL_at_5 8 rfl ho5 cl10.1 rfl (cX11_atc O.1 hw5) kX11_at kvX11_at w1199 ⟨rfl, rfl⟩ ⟨Nat.le_of_ble_eq_true rfl, Nat.le_of_ble_eq_true rfl⟩ ⟨Nat.le_of_ble_eq_true rfl, Nat.le_of_ble_eq_true rfl⟩ rfl rfl (Nat.le_of_ble_eq_true rfl) (2, 12) rfl ?_
    refine z_i2l C dL_at_8 9 rfl ?_
    obtain ⟨σ9, hσ9, hf⟩ := x_bind hf
    refine z_lastore C dL_at_9 10 rfl hσ9 ?_
    refine z_goto C dL_at_10 17 (by decide) ?_
    refine z_iconst C dL_at_17 18 rfl 0 (by decide) ?_
    exact e_iret C (hE _ (Option.some.inj hf).symm) ⟨Nat.le_of_ble_eq_true rfl, Nat.le_of_ble_eq_true rfl⟩ dL_at_18
  | inr E5 =>
    dsimp only at hf
    by_cases hc0 : E5 = xNSE
    · subst hc0
      have hf := (if_pos rfl).symm.trans hf
      refine e_cVc C O.2.2 dL_at_5 ho5 cl10.1 rfl (cX11_atc O.1 hw5) kX11_at kvX11_at w1199 ⟨rfl, rfl⟩ ⟨Nat.le_of_ble_eq_true rfl, Nat.le_of_ble_eq_true rfl⟩ ⟨Nat.le_of_ble_eq_true rfl, Nat.le_of_ble_eq_true rfl⟩ rfl rfl (Nat.le_of_ble_eq_true rfl) [] ⟨0, 10, 13, 18⟩ [] O.2.1 (fun z hz => nomatch hz) (by decide) (by decide) w972 castNSE 13 rfl (2, 12) rfl (fun q5 => ?_)
      refine z_astore C dL_at_13 15 rfl rfl [(4, .ref (q5)), (0, .ref (x0)), (1, .int (x1)), (2, .int (x2)), (3, .ref (x3))] rfl ?_
      refine z_iconst C dL_at_15 16 rfl 1 (by decide) ?_
      exact e_iret C (hE _ (Option.some.inj hf).symm) ⟨Nat.le_of_ble_eq_true rfl, Nat.le_of_ble_eq_true rfl⟩ dL_at_16
    · have hf := (if_neg hc0).symm.trans hf
      cases hf
theorem dL_came_0 : decode cL_came 0 = .ok (.aload_n 3, 1) := by decide +kernel
theorem dL_came_1 : decode cL_came 1 = .ok (.iconst 0, 1) := by decide +kernel
theorem dL_came_2 : decode cL_came 2 = .ok (.aload_n 0, 1) := by decide +kernel
theorem dL_came_3 : decode cL_came 3 = .ok (.iload_n 1, 1) := by decide +kernel
theorem dL_came_4 : decode cL_came 4 = .ok (.iload_n 2, 1) := by decide +kernel
theorem dL_came_5 : decode cL_came 5 = .ok (.invokevirtual 53, 3) := by decide +kernel
theorem dL_came_8 : decode cL_came 8 = .ok (.i2l, 1) := by decide +kernel
theorem dL_came_9 : decode cL_came 9 = .ok (.lastore, 1) := by decide +kernel
theorem dL_came_10 : decode cL_came 10 = .ok (.goto 7, 3) := by decide +kernel
theorem dL_came_13 : decode cL_came 13 = .ok (.astore 4, 2) := by decide +kernel
theorem dL_came_15 : decode cL_came 15 = .ok (.iconst 1, 1) := by decide +kernel
theorem dL_came_16 : decode cL_came 16 = .ok (.ireturn, 1) := by decide +kernel
theorem dL_came_17 : decode cL_came 17 = .ok (.iconst 0, 1) := by decide +kernel
theorem dL_came_18 : decode cL_came 18 = .ok (.ireturn, 1) := by decide +kernel
abbrev rmL_came : Room := { frames := 9, cells := 2, slots := 12, locals := 163 }
noncomputable def fL_came (σ : St) (x0 : Nat) (x1 : Int32) (x2 : Int32) (x3 : Nat) : Option (Int32 × St) :=
(isO σ x0 10).bind fun _ =>
(fX11_came σ x0 x1 x2).bind fun w5 =>
(match w5 with
| (Sum.inl x5r, σ5) =>
(sL σ5 x3 0 x5r.toInt64).bind fun σ9 =>
some (0, σ9)
| (Sum.inr E5, σ5) =>
if E5 = xNSE then
(some (1, σ5))
else
(none))
set_option maxHeartbeats 4000000 in
set_option maxRecDepth 100000 in
theorem cL_camec {l : Launch} (hst : l.stackTraces = false) {adK adV : Nat → Nat} {G : xG} {A : Nat → Prop} {σ : St} {x0 : Nat} {x1 : Int32} {x2 : Int32} {x3 : Nat} {c : Int32 × St} (hf : fL_came σ x0 x1 x2 x3 = some c) : ConE l yL_came (xwsW yL_came cL_came 5 (some .int) [(0, 10, 13, 18)]) rmL_came 2 12 [.ref (x0), .int (x1), .int (x2), .ref (x3)] adK adV G A σ (some (.int c.1)) c.2 := by
  refine e_start hst rfl (Nat.le_of_ble_eq_true rfl) (fun X _ _ _ C O hE0 => ?_)
  have hE : ∀ r, c = r → eE X 2 12 (some (.int r.1)) r.2 := fun r e => e ▸ hE0
  show Vz X (0, 0) σ 0 [(0, .ref (x0)), (1, .int (x1)), (2, .int (x2)), (3, .ref (x3))] []
  unfold fL_came at hf
  refine z_aload_n C dL_came_0 1 rfl 3 rfl rfl ?_
  refine z_iconst C dL_came_1 2 rfl 0 (by decide) ?_
  refine z_aload_n C dL_came_2 3 rfl 0 rfl rfl ?_
  refine z_iload_n C dL_came_3 4 rfl 1 rfl rfl ?_
  refine z_iload_n C dL_came_4 5 rfl 2 rfl rfl ?_
  obtain ⟨o5, ho5, hf⟩ := x_bind hf
  obtain ⟨⟨r5, σ5⟩, hw5, hf⟩ := x_bind hf
  cases r5 with
  | inl x5r =>
    dsimp only at hf
    refine z_cVn C O.2.2 dL_came_5 8 rfl ho5 cl10.1 rfl (cX11_camec O.1 hw5) kX11_came kvX11_came w1257 ⟨rfl, rfl⟩ ⟨Nat.le_of_ble_eq_true rfl, Nat.le_of_ble_eq_true rfl⟩ ⟨Nat.le_of_ble_eq_true rfl, Nat.le_of_ble_eq_true rfl⟩ rfl rfl (Nat.le_of_ble_eq_true rfl) (2, 12) rfl ?_
    refine z_i2l C dL_came_8 9 rfl ?_
    obtain ⟨σ9, hσ9, hf⟩ := x_bind hf
    refine z_lastore C dL_came_9 10 rfl hσ9 ?_
    refine z_goto C dL_came_10 17 (by decide) ?_
    refine z_iconst C dL_came_17 18 rfl 0 (by decide) ?_
    exact e_iret C (hE _ (Option.some.inj hf).symm) ⟨Nat.le_of_ble_eq_true rfl, Nat.le_of_ble_eq_true rfl⟩ dL_came_18
  | inr E5 =>
    dsimp only at hf
    by_cases hc0 : E5 = xNSE
    · subst hc0
      have hf := (if_pos rfl).symm.trans hf
      refine e_cVc C O.2.2 dL_came_5 ho5 cl10.1 rfl (cX11_camec O.1 hw5) kX11_came kvX11_came w1257 ⟨rfl, rfl⟩ ⟨Nat.le_of_ble_eq_true rfl, Nat.le_of_ble_eq_true rfl⟩ ⟨Nat.le_of_ble_eq_true rfl, Nat.le_of_ble_eq_true rfl⟩ rfl rfl (Nat.le_of_ble_eq_true rfl) [] ⟨0, 10, 13, 18⟩ [] O.2.1 (fun z hz => nomatch hz) (by decide) (by decide) w972 castNSE 13 rfl (2, 12) rfl (fun q5 => ?_)
      refine z_astore C dL_came_13 15 rfl rfl [(4, .ref (q5)), (0, .ref (x0)), (1, .int (x1)), (2, .int (x2)), (3, .ref (x3))] rfl ?_
      refine z_iconst C dL_came_15 16 rfl 1 (by decide) ?_
      exact e_iret C (hE _ (Option.some.inj hf).symm) ⟨Nat.le_of_ble_eq_true rfl, Nat.le_of_ble_eq_true rfl⟩ dL_came_16
    · have hf := (if_neg hc0).symm.trans hf
      cases hf
theorem dL_canon_0 : decode cL_canon 0 = .ok (.aload 4, 2) := by decide +kernel
theorem dL_canon_2 : decode cL_canon 2 = .ok (.iconst 0, 1) := by decide +kernel
theorem dL_canon_3 : decode cL_canon 3 = .ok (.aload_n 0, 1) := by decide +kernel
theorem dL_canon_4 : decode cL_canon 4 = .ok (.iload_n 1, 1) := by decide +kernel
theorem dL_canon_5 : decode cL_canon 5 = .ok (.iload_n 2, 1) := by decide +kernel
theorem dL_canon_6 : decode cL_canon 6 = .ok (.iload_n 3, 1) := by decide +kernel
theorem dL_canon_7 : decode cL_canon 7 = .ok (.invokevirtual 88, 3) := by decide +kernel
theorem dL_canon_10 : decode cL_canon 10 = .ok (.i2l, 1) := by decide +kernel
theorem dL_canon_11 : decode cL_canon 11 = .ok (.lastore, 1) := by decide +kernel
theorem dL_canon_12 : decode cL_canon 12 = .ok (.goto 7, 3) := by decide +kernel
theorem dL_canon_15 : decode cL_canon 15 = .ok (.astore 5, 2) := by decide +kernel
theorem dL_canon_17 : decode cL_canon 17 = .ok (.iconst 1, 1) := by decide +kernel
theorem dL_canon_18 : decode cL_canon 18 = .ok (.ireturn, 1) := by decide +kernel
theorem dL_canon_19 : decode cL_canon 19 = .ok (.iconst 0, 1) := by decide +kernel
theorem dL_canon_20 : decode cL_canon 20 = .ok (.ireturn, 1) := by decide +kernel
abbrev rmL_canon : Room := { frames := 9, cells := 3, slots := 18, locals := 164 }
noncomputable def fL_canon (σ : St) (x0 : Nat) (x1 : Int32) (x2 : Int32) (x3 : Int32) (x4 : Nat) : Option (Int32 × St) :=
(isO σ x0 10).bind fun _ =>
(fX11_canon σ x0 x1 x2 x3).bind fun w7 =>
(match w7 with
| (Sum.inl x7r, σ7) =>
(sL σ7 x4 0 x7r.toInt64).bind fun σ11 =>
some (0, σ11)
| (Sum.inr E7, σ7) =>
if E7 = xNSE then
(some (1, σ7))
else
(none))
set_option maxHeartbeats 4000000 in
set_option maxRecDepth 100000 in
theorem cL_canonc {l : Launch} (hst : l.stackTraces = false) {adK adV : Nat → Nat} {G : xG} {A : Nat → Prop} {σ : St} {x0 : Nat} {x1 : Int32} {x2 : Int32} {x3 : Int32} {x4 : Nat} {c : Int32 × St} (hf : fL_canon σ x0 x1 x2 x3 x4 = some c) : ConE l yL_canon (xwsW yL_canon cL_canon 6 (some .int) [(0, 12, 15, 18)]) rmL_canon 3 18 [.ref (x0), .int (x1), .int (x2), .int (x3), .ref (x4)] adK adV G A σ (some (.int c.1)) c.2 := by
  refine e_start hst rfl (Nat.le_of_ble_eq_true rfl) (fun X _ _ _ C O hE0 => ?_)
  have hE : ∀ r, c = r → eE X 3 18 (some (.int r.1)) r.2 := fun r e => e ▸ hE0
  show Vz X (0, 0) σ 0 [(0, .ref (x0)), (1, .int (x1)), (2, .int (x2)), (3, .int (x3)), (4, .ref (x4))] []
  unfold fL_canon at hf
  refine z_aload C dL_canon_0 2 rfl 4 rfl ?_
  refine z_iconst C dL_canon_2 3 rfl 0 (by decide) ?_
  refine z_aload_n C dL_canon_3 4 rfl 0 rfl rfl ?_
  refine z_iload_n C dL_canon_4 5 rfl 1 rfl rfl ?_
  refine z_iload_n C dL_canon_5 6 rfl 2 rfl rfl ?_
  refine z_iload_n C dL_canon_6 7 rfl 3 rfl rfl ?_
  obtain ⟨o7, ho7, hf⟩ := x_bind hf
  obtain ⟨⟨r7, σ7⟩, hw7, hf⟩ := x_bind hf
  cases r7 with
  | inl x7r =>
    dsimp only at hf
    refine z_cVn C O.2.2 dL_canon_7 10 rfl ho7 cl10.1 rfl (cX11_canonc O.1 hw7) kX11_canon kvX11_canon w1415 ⟨rfl, rfl⟩ ⟨Nat.le_of_ble_eq_true rfl, Nat.le_of_ble_eq_true rfl⟩ ⟨Nat.le_of_ble_eq_true rfl, Nat.le_of_ble_eq_true rfl⟩ rfl rfl (Nat.le_of_ble_eq_true rfl) (3, 18) rfl ?_
    refine z_i2l C dL_canon_10 11 rfl ?_
    obtain ⟨σ11, hσ11, hf⟩ := x_bind hf
    refine z_lastore C dL_canon_11 12 rfl hσ11 ?_
    refine z_goto C dL_canon_12 19 (by decide) ?_
    refine z_iconst C dL_canon_19 20 rfl 0 (by decide) ?_
    exact e_iret C (hE _ (Option.some.inj hf).symm) ⟨Nat.le_of_ble_eq_true rfl, Nat.le_of_ble_eq_true rfl⟩ dL_canon_20
  | inr E7 =>
    dsimp only at hf
    by_cases hc0 : E7 = xNSE
    · subst hc0
      have hf := (if_pos rfl).symm.trans hf
      refine e_cVc C O.2.2 dL_canon_7 ho7 cl10.1 rfl (cX11_canonc O.1 hw7) kX11_canon kvX11_canon w1415 ⟨rfl, rfl⟩ ⟨Nat.le_of_ble_eq_true rfl, Nat.le_of_ble_eq_true rfl⟩ ⟨Nat.le_of_ble_eq_true rfl, Nat.le_of_ble_eq_true rfl⟩ rfl rfl (Nat.le_of_ble_eq_true rfl) [] ⟨0, 12, 15, 18⟩ [] O.2.1 (fun z hz => nomatch hz) (by decide) (by decide) w972 castNSE 15 rfl (3, 18) rfl (fun q7 => ?_)
      refine z_astore C dL_canon_15 17 rfl rfl [(5, .ref (q7)), (0, .ref (x0)), (1, .int (x1)), (2, .int (x2)), (3, .int (x3)), (4, .ref (x4))] rfl ?_
      refine z_iconst C dL_canon_17 18 rfl 1 (by decide) ?_
      exact e_iret C (hE _ (Option.some.inj hf).symm) ⟨Nat.le_of_ble_eq_true rfl, Nat.le_of_ble_eq_true rfl⟩ dL_canon_18
    · have hf := (if_neg hc0).symm.trans hf
      cases hf
theorem dL_close_0 : decode cL_close 0 = .ok (.aload_n 2, 1) := by decide +kernel
theorem dL_close_1 : decode cL_close 1 = .ok (.iconst 0, 1) := by decide +kernel
theorem dL_close_2 : decode cL_close 2 = .ok (.aload_n 0, 1) := by decide +kernel
theorem dL_close_3 : decode cL_close 3 = .ok (.iload_n 1, 1) := by decide +kernel
theorem dL_close_4 : decode cL_close 4 = .ok (.invokevirtual 72, 3) := by decide +kernel
theorem dL_close_7 : decode cL_close 7 = .ok (.i2l, 1) := by decide +kernel
theorem dL_close_8 : decode cL_close 8 = .ok (.lastore, 1) := by decide +kernel
theorem dL_close_9 : decode cL_close 9 = .ok (.goto 6, 3) := by decide +kernel
theorem dL_close_12 : decode cL_close 12 = .ok (.astore_n 3, 1) := by decide +kernel
theorem dL_close_13 : decode cL_close 13 = .ok (.iconst 1, 1) := by decide +kernel
theorem dL_close_14 : decode cL_close 14 = .ok (.ireturn, 1) := by decide +kernel
theorem dL_close_15 : decode cL_close 15 = .ok (.iconst 0, 1) := by decide +kernel
theorem dL_close_16 : decode cL_close 16 = .ok (.ireturn, 1) := by decide +kernel
abbrev rmL_close : Room := { frames := 8, cells := 1, slots := 6, locals := 234 }
noncomputable def fL_close (σ : St) (x0 : Nat) (x1 : Int32) (x2 : Nat) : Option (Int32 × St) :=
(isO σ x0 10).bind fun _ =>
(fX11_close σ x0 x1).bind fun w4 =>
(match w4 with
| (Sum.inl x4r, σ4) =>
(sL σ4 x2 0 x4r.toInt64).bind fun σ8 =>
some (0, σ8)
| (Sum.inr E4, σ4) =>
if E4 = xIAE then
(some (1, σ4))
else
(none))
set_option maxHeartbeats 4000000 in
set_option maxRecDepth 100000 in
theorem cL_closec {l : Launch} (hst : l.stackTraces = false) {adK adV : Nat → Nat} {G : xG} {A : Nat → Prop} {σ : St} {x0 : Nat} {x1 : Int32} {x2 : Nat} {c : Int32 × St} (hf : fL_close σ x0 x1 x2 = some c) : ConE l yL_close (xwsW yL_close cL_close 4 (some .int) [(0, 9, 12, 13)]) rmL_close 1 6 [.ref (x0), .int (x1), .ref (x2)] adK adV G A σ (some (.int c.1)) c.2 := by
  refine e_start hst rfl (Nat.le_of_ble_eq_true rfl) (fun X _ _ _ C O hE0 => ?_)
  have hE : ∀ r, c = r → eE X 1 6 (some (.int r.1)) r.2 := fun r e => e ▸ hE0
  show Vz X (0, 0) σ 0 [(0, .ref (x0)), (1, .int (x1)), (2, .ref (x2))] []
  unfold fL_close at hf
  refine z_aload_n C dL_close_0 1 rfl 2 rfl rfl ?_
  refine z_iconst C dL_close_1 2 rfl 0 (by decide) ?_
  refine z_aload_n C dL_close_2 3 rfl 0 rfl rfl ?_
  refine z_iload_n C dL_close_3 4 rfl 1 rfl rfl ?_
  obtain ⟨o4, ho4, hf⟩ := x_bind hf
  obtain ⟨⟨r4, σ4⟩, hw4, hf⟩ := x_bind hf
  cases r4 with
  | inl x4r =>
    dsimp only at hf
    refine z_cVn C O.2.2 dL_close_4 7 rfl ho4 cl10.1 rfl (cX11_closec O.1 hw4) kX11_close kvX11_close w1309 ⟨rfl, rfl⟩ ⟨Nat.le_of_ble_eq_true rfl, Nat.le_of_ble_eq_true rfl⟩ ⟨Nat.le_of_ble_eq_true rfl, Nat.le_of_ble_eq_true rfl⟩ rfl rfl (Nat.le_of_ble_eq_true rfl) (1, 6) rfl ?_
    refine z_i2l C dL_close_7 8 rfl ?_
    obtain ⟨σ8, hσ8, hf⟩ := x_bind hf
    refine z_lastore C dL_close_8 9 rfl hσ8 ?_
    refine z_goto C dL_close_9 15 (by decide) ?_
    refine z_iconst C dL_close_15 16 rfl 0 (by decide) ?_
    exact e_iret C (hE _ (Option.some.inj hf).symm) ⟨Nat.le_of_ble_eq_true rfl, Nat.le_of_ble_eq_true rfl⟩ dL_close_16
  | inr E4 =>
    dsimp only at hf
    by_cases hc0 : E4 = xIAE
    · subst hc0
      have hf := (if_pos rfl).symm.trans hf
      refine e_cVc C O.2.2 dL_close_4 ho4 cl10.1 rfl (cX11_closec O.1 hw4) kX11_close kvX11_close w1309 ⟨rfl, rfl⟩ ⟨Nat.le_of_ble_eq_true rfl, Nat.le_of_ble_eq_true rfl⟩ ⟨Nat.le_of_ble_eq_true rfl, Nat.le_of_ble_eq_true rfl⟩ rfl rfl (Nat.le_of_ble_eq_true rfl) [] ⟨0, 9, 12, 13⟩ [] O.2.1 (fun z hz => nomatch hz) (by decide) (by decide) w758 castIAE 12 rfl (1, 6) rfl (fun q4 => ?_)
      refine z_astore_n C dL_close_12 13 rfl rfl rfl [(3, .ref (q4)), (0, .ref (x0)), (1, .int (x1)), (2, .ref (x2))] rfl ?_
      refine z_iconst C dL_close_13 14 rfl 1 (by decide) ?_
      exact e_iret C (hE _ (Option.some.inj hf).symm) ⟨Nat.le_of_ble_eq_true rfl, Nat.le_of_ble_eq_true rfl⟩ dL_close_14
    · have hf := (if_neg hc0).symm.trans hf
      cases hf
theorem dL_compare_0 : decode cL_compare 0 = .ok (.aload_n 3, 1) := by decide +kernel
theorem dL_compare_1 : decode cL_compare 1 = .ok (.iconst 0, 1) := by decide +kernel
theorem dL_compare_2 : decode cL_compare 2 = .ok (.aload_n 0, 1) := by decide +kernel
theorem dL_compare_3 : decode cL_compare 3 = .ok (.iload_n 1, 1) := by decide +kernel
theorem dL_compare_4 : decode cL_compare 4 = .ok (.iload_n 2, 1) := by decide +kernel
theorem dL_compare_5 : decode cL_compare 5 = .ok (.invokevirtual 62, 3) := by decide +kernel
theorem dL_compare_8 : decode cL_compare 8 = .ok (.i2l, 1) := by decide +kernel
theorem dL_compare_9 : decode cL_compare 9 = .ok (.lastore, 1) := by decide +kernel
theorem dL_compare_10 : decode cL_compare 10 = .ok (.goto 7, 3) := by decide +kernel
theorem dL_compare_13 : decode cL_compare 13 = .ok (.astore 4, 2) := by decide +kernel
theorem dL_compare_15 : decode cL_compare 15 = .ok (.iconst 1, 1) := by decide +kernel
theorem dL_compare_16 : decode cL_compare 16 = .ok (.ireturn, 1) := by decide +kernel
theorem dL_compare_17 : decode cL_compare 17 = .ok (.iconst 0, 1) := by decide +kernel
theorem dL_compare_18 : decode cL_compare 18 = .ok (.ireturn, 1) := by decide +kernel
abbrev rmL_compare : Room := { frames := 9, cells := 2, slots := 12, locals := 162 }
noncomputable def fL_compare (σ : St) (x0 : Nat) (x1 : Int32) (x2 : Int32) (x3 : Nat) : Option (Int32 × St) :=
(isO σ x0 10).bind fun _ =>
(fX11_compare σ x0 x1 x2).bind fun w5 =>
(match w5 with
| (Sum.inl x5r, σ5) =>
(sL σ5 x3 0 x5r.toInt64).bind fun σ9 =>
some (0, σ9)
| (Sum.inr E5, σ5) =>
if E5 = xNSE then
(some (1, σ5))
else
(none))
set_option maxHeartbeats 4000000 in
set_option maxRecDepth 100000 in
theorem cL_comparec {l : Launch} (hst : l.stackTraces = false) {adK adV : Nat → Nat} {G : xG} {A : Nat → Prop} {σ : St} {x0 : Nat} {x1 : Int32} {x2 : Int32} {x3 : Nat} {c : Int32 × St} (hf : fL_compare σ x0 x1 x2 x3 = some c) : ConE l yL_compare (xwsW yL_compare cL_compare 5 (some .int) [(0, 10, 13, 18)]) rmL_compare 2 12 [.ref (x0), .int (x1), .int (x2), .ref (x3)] adK adV G A σ (some (.int c.1)) c.2 := by
  refine e_start hst rfl (Nat.le_of_ble_eq_true rfl) (fun X _ _ _ C O hE0 => ?_)
  have hE : ∀ r, c = r → eE X 2 12 (some (.int r.1)) r.2 := fun r e => e ▸ hE0
  show Vz X (0, 0) σ 0 [(0, .ref (x0)), (1, .int (x1)), (2, .int (x2)), (3, .ref (x3))] []
  unfold fL_compare at hf
  refine z_aload_n C dL_compare_0 1 rfl 3 rfl rfl ?_
  refine z_iconst C dL_compare_1 2 rfl 0 (by decide) ?_
  refine z_aload_n C dL_compare_2 3 rfl 0 rfl rfl ?_
  refine z_iload_n C dL_compare_3 4 rfl 1 rfl rfl ?_
  refine z_iload_n C dL_compare_4 5 rfl 2 rfl rfl ?_
  obtain ⟨o5, ho5, hf⟩ := x_bind hf
  obtain ⟨⟨r5, σ5⟩, hw5, hf⟩ := x_bind hf
  cases r5 with
  | inl x5r =>
    dsimp only at hf
    refine z_cVn C O.2.2 dL_compare_5 8 rfl ho5 cl10.1 rfl (cX11_comparec O.1 hw5) kX11_compare kvX11_compare w1282 ⟨rfl, rfl⟩ ⟨Nat.le_of_ble_eq_true rfl, Nat.le_of_ble_eq_true rfl⟩ ⟨Nat.le_of_ble_eq_true rfl, Nat.le_of_ble_eq_true rfl⟩ rfl rfl (Nat.le_of_ble_eq_true rfl) (2, 12) rfl ?_
    refine z_i2l C dL_compare_8 9 rfl ?_
    obtain ⟨σ9, hσ9, hf⟩ := x_bind hf
    refine z_lastore C dL_compare_9 10 rfl hσ9 ?_
    refine z_goto C dL_compare_10 17 (by decide) ?_
    refine z_iconst C dL_compare_17 18 rfl 0 (by decide) ?_
    exact e_iret C (hE _ (Option.some.inj hf).symm) ⟨Nat.le_of_ble_eq_true rfl, Nat.le_of_ble_eq_true rfl⟩ dL_compare_18
  | inr E5 =>
    dsimp only at hf
    by_cases hc0 : E5 = xNSE
    · subst hc0
      have hf := (if_pos rfl).symm.trans hf
      refine e_cVc C O.2.2 dL_compare_5 ho5 cl10.1 rfl (cX11_comparec O.1 hw5) kX11_compare kvX11_compare w1282 ⟨rfl, rfl⟩ ⟨Nat.le_of_ble_eq_true rfl, Nat.le_of_ble_eq_true rfl⟩ ⟨Nat.le_of_ble_eq_true rfl, Nat.le_of_ble_eq_true rfl⟩ rfl rfl (Nat.le_of_ble_eq_true rfl) [] ⟨0, 10, 13, 18⟩ [] O.2.1 (fun z hz => nomatch hz) (by decide) (by decide) w972 castNSE 13 rfl (2, 12) rfl (fun q5 => ?_)
      refine z_astore C dL_compare_13 15 rfl rfl [(4, .ref (q5)), (0, .ref (x0)), (1, .int (x1)), (2, .int (x2)), (3, .ref (x3))] rfl ?_
      refine z_iconst C dL_compare_15 16 rfl 1 (by decide) ?_
      exact e_iret C (hE _ (Option.some.inj hf).symm) ⟨Nat.le_of_ble_eq_true rfl, Nat.le_of_ble_eq_true rfl⟩ dL_compare_16
    · have hf := (if_neg hc0).symm.trans hf
      cases hf
theorem dL_count_0 : decode cL_count 0 = .ok (.aload_n 2, 1) := by decide +kernel
theorem dL_count_1 : decode cL_count 1 = .ok (.iconst 0, 1) := by decide +kernel
theorem dL_count_2 : decode cL_count 2 = .ok (.aload_n 0, 1) := by decide +kernel
theorem dL_count_3 : decode cL_count 3 = .ok (.iload_n 1, 1) := by decide +kernel
theorem dL_count_4 : decode cL_count 4 = .ok (.invokevirtual 15, 3) := by decide +kernel
theorem dL_count_7 : decode cL_count 7 = .ok (.i2l, 1) := by decide +kernel
theorem dL_count_8 : decode cL_count 8 = .ok (.lastore, 1) := by decide +kernel
theorem dL_count_9 : decode cL_count 9 = .ok (.goto 6, 3) := by decide +kernel
theorem dL_count_12 : decode cL_count 12 = .ok (.astore_n 3, 1) := by decide +kernel
theorem dL_count_13 : decode cL_count 13 = .ok (.iconst 1, 1) := by decide +kernel
theorem dL_count_14 : decode cL_count 14 = .ok (.ireturn, 1) := by decide +kernel
theorem dL_count_15 : decode cL_count 15 = .ok (.iconst 0, 1) := by decide +kernel
theorem dL_count_16 : decode cL_count 16 = .ok (.ireturn, 1) := by decide +kernel
abbrev rmL_count : Room := { frames := 8, cells := 1, slots := 6, locals := 232 }
noncomputable def fL_count (σ : St) (x0 : Nat) (x1 : Int32) (x2 : Nat) : Option (Int32 × St) :=
(isO σ x0 10).bind fun _ =>
(fX11_count σ x0 x1).bind fun w4 =>
(match w4 with
| (Sum.inl x4r, σ4) =>
(sL σ4 x2 0 x4r.toInt64).bind fun σ8 =>
some (0, σ8)
| (Sum.inr E4, σ4) =>
if E4 = xNSE then
(some (1, σ4))
else
(none))
set_option maxHeartbeats 4000000 in
set_option maxRecDepth 100000 in
theorem cL_countc {l : Launch} (hst : l.stackTraces = false) {adK adV : Nat → Nat} {G : xG} {A : Nat → Prop} {σ : St} {x0 : Nat} {x1 : Int32} {x2 : Nat} {c : Int32 × St} (hf : fL_count σ x0 x1 x2 = some c) : ConE l yL_count (xwsW yL_count cL_count 4 (some .int) [(0, 9, 12, 18)]) rmL_count 1 6 [.ref (x0), .int (x1), .ref (x2)] adK adV G A σ (some (.int c.1)) c.2 := by
  refine e_start hst rfl (Nat.le_of_ble_eq_true rfl) (fun X _ _ _ C O hE0 => ?_)
  have hE : ∀ r, c = r → eE X 1 6 (some (.int r.1)) r.2 := fun r e => e ▸ hE0
  show Vz X (0, 0) σ 0 [(0, .ref (x0)), (1, .int (x1)), (2, .ref (x2))] []
  unfold fL_count at hf
  refine z_aload_n C dL_count_0 1 rfl 2 rfl rfl ?_
  refine z_iconst C dL_count_1 2 rfl 0 (by decide) ?_
  refine z_aload_n C dL_count_2 3 rfl 0 rfl rfl ?_
  refine z_iload_n C dL_count_3 4 rfl 1 rfl rfl ?_
  obtain ⟨o4, ho4, hf⟩ := x_bind hf
  obtain ⟨⟨r4, σ4⟩, hw4, hf⟩ := x_bind hf
  cases r4 with
  | inl x4r =>
    dsimp only at hf
    refine z_cVn C O.2.2 dL_count_4 7 rfl ho4 cl10.1 rfl (cX11_countc O.1 hw4) kX11_count kvX11_count w973 ⟨rfl, rfl⟩ ⟨Nat.le_of_ble_eq_true rfl, Nat.le_of_ble_eq_true rfl⟩ ⟨Nat.le_of_ble_eq_true rfl, Nat.le_of_ble_eq_true rfl⟩ rfl rfl (Nat.le_of_ble_eq_true rfl) (1, 6) rfl ?_
    refine z_i2l C dL_count_7 8 rfl ?_
    obtain ⟨σ8, hσ8, hf⟩ := x_bind hf
    refine z_lastore C dL_count_8 9 rfl hσ8 ?_
    refine z_goto C dL_count_9 15 (by decide) ?_
    refine z_iconst C dL_count_15 16 rfl 0 (by decide) ?_
    exact e_iret C (hE _ (Option.some.inj hf).symm) ⟨Nat.le_of_ble_eq_true rfl, Nat.le_of_ble_eq_true rfl⟩ dL_count_16
  | inr E4 =>
    dsimp only at hf
    by_cases hc0 : E4 = xNSE
    · subst hc0
      have hf := (if_pos rfl).symm.trans hf
      refine e_cVc C O.2.2 dL_count_4 ho4 cl10.1 rfl (cX11_countc O.1 hw4) kX11_count kvX11_count w973 ⟨rfl, rfl⟩ ⟨Nat.le_of_ble_eq_true rfl, Nat.le_of_ble_eq_true rfl⟩ ⟨Nat.le_of_ble_eq_true rfl, Nat.le_of_ble_eq_true rfl⟩ rfl rfl (Nat.le_of_ble_eq_true rfl) [] ⟨0, 9, 12, 18⟩ [] O.2.1 (fun z hz => nomatch hz) (by decide) (by decide) w972 castNSE 12 rfl (1, 6) rfl (fun q4 => ?_)
      refine z_astore_n C dL_count_12 13 rfl rfl rfl [(3, .ref (q4)), (0, .ref (x0)), (1, .int (x1)), (2, .ref (x2))] rfl ?_
      refine z_iconst C dL_count_13 14 rfl 1 (by decide) ?_
      exact e_iret C (hE _ (Option.some.inj hf).symm) ⟨Nat.le_of_ble_eq_true rfl, Nat.le_of_ble_eq_true rfl⟩ dL_count_14
    · have hf := (if_neg hc0).symm.trans hf
      cases hf
theorem dL_falls_0 : decode cL_falls 0 = .ok (.aload_n 2, 1) := by decide +kernel
theorem dL_falls_1 : decode cL_falls 1 = .ok (.iconst 0, 1) := by decide +kernel
theorem dL_falls_2 : decode cL_falls 2 = .ok (.aload_n 0, 1) := by decide +kernel
theorem dL_falls_3 : decode cL_falls 3 = .ok (.iload_n 1, 1) := by decide +kernel
theorem dL_falls_4 : decode cL_falls 4 = .ok (.invokevirtual 68, 3) := by decide +kernel
theorem dL_falls_7 : decode cL_falls 7 = .ok (.ifCond .eq 7, 3) := by decide +kernel
theorem dL_falls_10 : decode cL_falls 10 = .ok (.lconst 1, 1) := by decide +kernel
theorem dL_falls_11 : decode cL_falls 11 = .ok (.goto 4, 3) := by decide +kernel
theorem dL_falls_14 : decode cL_falls 14 = .ok (.lconst 0, 1) := by decide +kernel
theorem dL_falls_15 : decode cL_falls 15 = .ok (.lastore, 1) := by decide +kernel
theorem dL_falls_16 : decode cL_falls 16 = .ok (.goto 6, 3) := by decide +kernel
theorem dL_falls_19 : decode cL_falls 19 = .ok (.astore_n 3, 1) := by decide +kernel
theorem dL_falls_20 : decode cL_falls 20 = .ok (.iconst 1, 1) := by decide +kernel
theorem dL_falls_21 : decode cL_falls 21 = .ok (.ireturn, 1) := by decide +kernel
theorem dL_falls_22 : decode cL_falls 22 = .ok (.iconst 0, 1) := by decide +kernel
theorem dL_falls_23 : decode cL_falls 23 = .ok (.ireturn, 1) := by decide +kernel
abbrev rmL_falls : Room := { frames := 9, cells := 1, slots := 6, locals := 162 }
noncomputable def fL_falls (σ : St) (x0 : Nat) (x1 : Int32) (x2 : Nat) : Option (Int32 × St) :=
(isO σ x0 10).bind fun _ =>
(fX11_falls σ x0 x1).bind fun w4 =>
(match w4 with
| (Sum.inl x4r, σ4) =>
if x4r = 0 then
((sL σ4 x2 0 0).bind fun σ15 =>
some (0, σ15))
else
((sL σ4 x2 0 1).bind fun σ15 =>
some (0, σ15))
| (Sum.inr E4, σ4) =>
if E4 = xNSE then
(some (1, σ4))
else
(none))
set_option maxHeartbeats 4000000 in
set_option maxRecDepth 100000 in
theorem cL_fallsc {l : Launch} (hst : l.stackTraces = false) {adK adV : Nat → Nat} {G : xG} {A : Nat → Prop} {σ : St} {x0 : Nat} {x1 : Int32} {x2 : Nat} {c : Int32 × St} (hf : fL_falls σ x0 x1 x2 = some c) : ConE l yL_falls (xwsW yL_falls cL_falls 4 (some .int) [(0, 16, 19, 18)]) rmL_falls 1 6 [.ref (x0), .int (x1), .ref (x2)] adK adV G A σ (some (.int c.1)) c.2 := by
  refine e_start hst rfl (Nat.le_of_ble_eq_true rfl) (fun X _ _ _ C O hE0 => ?_)
  have hE : ∀ r, c = r → eE X 1 6 (some (.int r.1)) r.2 := fun r e => e ▸ hE0
  show Vz X (0, 0) σ 0 [(0, .ref (x0)), (1, .int (x1)), (2, .ref (x2))] []
  unfold fL_falls at hf
  refine z_aload_n C dL_falls_0 1 rfl 2 rfl rfl ?_
  refine z_iconst C dL_falls_1 2 rfl 0 (by decide) ?_
  refine z_aload_n C dL_falls_2 3 rfl 0 rfl rfl ?_
  refine z_iload_n C dL_falls_3 4 rfl 1 rfl rfl ?_
  obtain ⟨o4, ho4, hf⟩ := x_bind hf
  obtain ⟨⟨r4, σ4⟩, hw4, hf⟩ := x_bind hf
  cases r4 with
  | inl x4r =>
    dsimp only at hf
    refine z_cVn C O.2.2 dL_falls_4 7 rfl ho4 cl10.1 rfl (cX11_fallsc O.1 hw4) kX11_falls kvX11_falls w1301 ⟨rfl, rfl⟩ ⟨Nat.le_of_ble_eq_true rfl, Nat.le_of_ble_eq_true rfl⟩ ⟨Nat.le_of_ble_eq_true rfl, Nat.le_of_ble_eq_true rfl⟩ rfl rfl (Nat.le_of_ble_eq_true rfl) (1, 6) rfl ?_
    refine z_if_eq C dL_falls_7 14 (by decide) 10 rfl (fun hc => ?_) (fun hc => ?_)
    · have hf := (if_pos hc).symm.trans hf
      refine z_lconst C dL_falls_14 15 rfl 0 (by decide) ?_
      obtain ⟨σ15, hσ15, hf⟩ := x_bind hf
      refine z_lastore C dL_falls_15 16 rfl hσ15 ?_
      refine z_goto C dL_falls_16 22 (by decide) ?_
      refine z_iconst C dL_falls_22 23 rfl 0 (by decide) ?_
      exact e_iret C (hE _ (Option.some.inj hf).symm) ⟨Nat.le_of_ble_eq_true rfl, Nat.le_of_ble_eq_true rfl⟩ dL_falls_23
    · have hf := (if_neg hc).symm.trans hf
      refine z_lconst C dL_falls_10 11 rfl 1 (by decide) ?_
      refine z_goto C dL_falls_11 15 (by decide) ?_
      obtain ⟨σ15, hσ15, hf⟩ := x_bind hf
      refine z_lastore C dL_falls_15 16 rfl hσ15 ?_
      refine z_goto C dL_falls_16 22 (by decide) ?_
      refine z_iconst C dL_falls_22 23 rfl 0 (by decide) ?_
      exact e_iret C (hE _ (Option.some.inj hf).symm) ⟨Nat.le_of_ble_eq_true rfl, Nat.le_of_ble_eq_true rfl⟩ dL_falls_23
  | inr E4 =>
    dsimp only at hf
    by_cases hc0 : E4 = xNSE
    · subst hc0
      have hf := (if_pos rfl).symm.trans hf
      refine e_cVc C O.2.2 dL_falls_4 ho4 cl10.1 rfl (cX11_fallsc O.1 hw4) kX11_falls kvX11_falls w1301 ⟨rfl, rfl⟩ ⟨Nat.le_of_ble_eq_true rfl, Nat.le_of_ble_eq_true rfl⟩ ⟨Nat.le_of_ble_eq_true rfl, Nat.le_of_ble_eq_true rfl⟩ rfl rfl (Nat.le_of_ble_eq_true rfl) [] ⟨0, 16, 19, 18⟩ [] O.2.1 (fun z hz => nomatch hz) (by decide) (by decide) w972 castNSE 19 rfl (1, 6) rfl (fun q4 => ?_)
      refine z_astore_n C dL_falls_19 20 rfl rfl rfl [(3, .ref (q4)), (0, .ref (x0)), (1, .int (x1)), (2, .ref (x2))] rfl ?_
      refine z_iconst C dL_falls_20 21 rfl 1 (by decide) ?_
      exact e_iret C (hE _ (Option.some.inj hf).symm) ⟨Nat.le_of_ble_eq_true rfl, Nat.le_of_ble_eq_true rfl⟩ dL_falls_21
    · have hf := (if_neg hc0).symm.trans hf
      cases hf
theorem dL_far_0 : decode cL_far 0 = .ok (.aload_n 3, 1) := by decide +kernel
theorem dL_far_1 : decode cL_far 1 = .ok (.iconst 0, 1) := by decide +kernel
theorem dL_far_2 : decode cL_far 2 = .ok (.aload_n 0, 1) := by decide +kernel
theorem dL_far_3 : decode cL_far 3 = .ok (.iload_n 1, 1) := by decide +kernel
theorem dL_far_4 : decode cL_far 4 = .ok (.iload_n 2, 1) := by decide +kernel
theorem dL_far_5 : decode cL_far 5 = .ok (.invokevirtual 59, 3) := by decide +kernel
theorem dL_far_8 : decode cL_far 8 = .ok (.i2l, 1) := by decide +kernel
theorem dL_far_9 : decode cL_far 9 = .ok (.lastore, 1) := by decide +kernel
theorem dL_far_10 : decode cL_far 10 = .ok (.goto 7, 3) := by decide +kernel
theorem dL_far_13 : decode cL_far 13 = .ok (.astore 4, 2) := by decide +kernel
theorem dL_far_15 : decode cL_far 15 = .ok (.iconst 1, 1) := by decide +kernel
theorem dL_far_16 : decode cL_far 16 = .ok (.ireturn, 1) := by decide +kernel
theorem dL_far_17 : decode cL_far 17 = .ok (.iconst 0, 1) := by decide +kernel
theorem dL_far_18 : decode cL_far 18 = .ok (.ireturn, 1) := by decide +kernel
abbrev rmL_far : Room := { frames := 9, cells := 2, slots := 12, locals := 163 }
noncomputable def fL_far (σ : St) (x0 : Nat) (x1 : Int32) (x2 : Int32) (x3 : Nat) : Option (Int32 × St) :=
(isO σ x0 10).bind fun _ =>
(fX11_far σ x0 x1 x2).bind fun w5 =>
(match w5 with
| (Sum.inl x5r, σ5) =>
(sL σ5 x3 0 x5r.toInt64).bind fun σ9 =>
some (0, σ9)
| (Sum.inr E5, σ5) =>
if E5 = xNSE then
(some (1, σ5))
else
(none))
set_option maxHeartbeats 4000000 in
set_option maxRecDepth 100000 in
theorem cL_farc {l : Launch} (hst : l.stackTraces = false) {adK adV : Nat → Nat} {G : xG} {A : Nat → Prop} {σ : St} {x0 : Nat} {x1 : Int32} {x2 : Int32} {x3 : Nat} {c : Int32 × St} (hf : fL_far σ x0 x1 x2 x3 = some c) : ConE l yL_far (xwsW yL_far cL_far 5 (some .int) [(0, 10, 13, 18)]) rmL_far 2 12 [.ref (x0), .int (x1), .int (x2), .ref (x3)] adK adV G A σ (some (.int c.1)) c.2 := by
  refine e_start hst rfl (Nat.le_of_ble_eq_true rfl) (fun X _ _ _ C O hE0 => ?_)
  have hE : ∀ r, c = r → eE X 2 12 (some (.int r.1)) r.2 := fun r e => e ▸ hE0
  show Vz X (0, 0) σ 0 [(0, .ref (x0)), (1, .int (x1)), (2, .int (x2)), (3, .ref (x3))] []
  unfold fL_far at hf
  refine z_aload_n C dL_far_0 1 rfl 3 rfl rfl ?_
  refine z_iconst C dL_far_1 2 rfl 0 (by decide) ?_
  refine z_aload_n C dL_far_2 3 rfl 0 rfl rfl ?_
  refine z_iload_n C dL_far_3 4 rfl 1 rfl rfl ?_
  refine z_iload_n C dL_far_4 5 rfl 2 rfl rfl ?_
  obtain ⟨o5, ho5, hf⟩ := x_bind hf
  obtain ⟨⟨r5, σ5⟩, hw5, hf⟩ := x_bind hf
  cases r5 with
  | inl x5r =>
    dsimp only at hf
    refine z_cVn C O.2.2 dL_far_5 8 rfl ho5 cl10.1 rfl (cX11_farc O.1 hw5) kX11_far kvX11_far w1275 ⟨rfl, rfl⟩ ⟨Nat.le_of_ble_eq_true rfl, Nat.le_of_ble_eq_true rfl⟩ ⟨Nat.le_of_ble_eq_true rfl, Nat.le_of_ble_eq_true rfl⟩ rfl rfl (Nat.le_of_ble_eq_true rfl) (2, 12) rfl ?_
    refine z_i2l C dL_far_8 9 rfl ?_
    obtain ⟨σ9, hσ9, hf⟩ := x_bind hf
    refine z_lastore C dL_far_9 10 rfl hσ9 ?_
    refine z_goto C dL_far_10 17 (by decide) ?_
    refine z_iconst C dL_far_17 18 rfl 0 (by decide) ?_
    exact e_iret C (hE _ (Option.some.inj hf).symm) ⟨Nat.le_of_ble_eq_true rfl, Nat.le_of_ble_eq_true rfl⟩ dL_far_18
  | inr E5 =>
    dsimp only at hf
    by_cases hc0 : E5 = xNSE
    · subst hc0
      have hf := (if_pos rfl).symm.trans hf
      refine e_cVc C O.2.2 dL_far_5 ho5 cl10.1 rfl (cX11_farc O.1 hw5) kX11_far kvX11_far w1275 ⟨rfl, rfl⟩ ⟨Nat.le_of_ble_eq_true rfl, Nat.le_of_ble_eq_true rfl⟩ ⟨Nat.le_of_ble_eq_true rfl, Nat.le_of_ble_eq_true rfl⟩ rfl rfl (Nat.le_of_ble_eq_true rfl) [] ⟨0, 10, 13, 18⟩ [] O.2.1 (fun z hz => nomatch hz) (by decide) (by decide) w972 castNSE 13 rfl (2, 12) rfl (fun q5 => ?_)
      refine z_astore C dL_far_13 15 rfl rfl [(4, .ref (q5)), (0, .ref (x0)), (1, .int (x1)), (2, .int (x2)), (3, .ref (x3))] rfl ?_
      refine z_iconst C dL_far_15 16 rfl 1 (by decide) ?_
      exact e_iret C (hE _ (Option.some.inj hf).symm) ⟨Nat.le_of_ble_eq_true rfl, Nat.le_of_ble_eq_true rfl⟩ dL_far_16
    · have hf := (if_neg hc0).symm.trans hf
      cases hf
theorem dL_free_0 : decode cL_free 0 = .ok (.aload_n 2, 1) := by decide +kernel
theorem dL_free_1 : decode cL_free 1 = .ok (.iconst 0, 1) := by decide +kernel
theorem dL_free_2 : decode cL_free 2 = .ok (.aload_n 0, 1) := by decide +kernel
theorem dL_free_3 : decode cL_free 3 = .ok (.iload_n 1, 1) := by decide +kernel
theorem dL_free_4 : decode cL_free 4 = .ok (.invokevirtual 78, 3) := by decide +kernel
theorem dL_free_7 : decode cL_free 7 = .ok (.i2l, 1) := by decide +kernel
theorem dL_free_8 : decode cL_free 8 = .ok (.lastore, 1) := by decide +kernel
theorem dL_free_9 : decode cL_free 9 = .ok (.goto 6, 3) := by decide +kernel
theorem dL_free_12 : decode cL_free 12 = .ok (.astore_n 3, 1) := by decide +kernel
theorem dL_free_13 : decode cL_free 13 = .ok (.iconst 1, 1) := by decide +kernel
theorem dL_free_14 : decode cL_free 14 = .ok (.ireturn, 1) := by decide +kernel
theorem dL_free_15 : decode cL_free 15 = .ok (.iconst 0, 1) := by decide +kernel
theorem dL_free_16 : decode cL_free 16 = .ok (.ireturn, 1) := by decide +kernel
abbrev rmL_free : Room := { frames := 8, cells := 1, slots := 6, locals := 141 }
noncomputable def fL_free (σ : St) (x0 : Nat) (x1 : Int32) (x2 : Nat) : Option (Int32 × St) :=
(isO σ x0 10).bind fun _ =>
(fX11_free σ x0 x1).bind fun w4 =>
(match w4 with
| (Sum.inl x4r, σ4) =>
(sL σ4 x2 0 x4r.toInt64).bind fun σ8 =>
some (0, σ8)
| (Sum.inr E4, σ4) =>
if E4 = xIAE then
(some (1, σ4))
else
(none))
set_option maxHeartbeats 4000000 in
set_option maxRecDepth 100000 in
theorem cL_freec {l : Launch} (hst : l.stackTraces = false) {adK adV : Nat → Nat} {G : xG} {A : Nat → Prop} {σ : St} {x0 : Nat} {x1 : Int32} {x2 : Nat} {c : Int32 × St} (hf : fL_free σ x0 x1 x2 = some c) : ConE l yL_free (xwsW yL_free cL_free 4 (some .int) [(0, 9, 12, 13)]) rmL_free 1 6 [.ref (x0), .int (x1), .ref (x2)] adK adV G A σ (some (.int c.1)) c.2 := by
  refine e_start hst rfl (Nat.le_of_ble_eq_true rfl) (fun X _ _ _ C O hE0 => ?_)
  have hE : ∀ r, c = r → eE X 1 6 (some (.int r.1)) r.2 := fun r e => e ▸ hE0
  show Vz X (0, 0) σ 0 [(0, .ref (x0)), (1, .int (x1)), (2, .ref (x2))] []
  unfold fL_free at hf
  refine z_aload_n C dL_free_0 1 rfl 2 rfl rfl ?_
  refine z_iconst C dL_free_1 2 rfl 0 (by decide) ?_
  refine z_aload_n C dL_free_2 3 rfl 0 rfl rfl ?_
  refine z_iload_n C dL_free_3 4 rfl 1 rfl rfl ?_
  obtain ⟨o4, ho4, hf⟩ := x_bind hf
  obtain ⟨⟨r4, σ4⟩, hw4, hf⟩ := x_bind hf
  cases r4 with
  | inl x4r =>
    dsimp only at hf
    refine z_cVn C O.2.2 dL_free_4 7 rfl ho4 cl10.1 rfl (cX11_freec O.1 hw4) kX11_free kvX11_free w1360 ⟨rfl, rfl⟩ ⟨Nat.le_of_ble_eq_true rfl, Nat.le_of_ble_eq_true rfl⟩ ⟨Nat.le_of_ble_eq_true rfl, Nat.le_of_ble_eq_true rfl⟩ rfl rfl (Nat.le_of_ble_eq_true rfl) (1, 6) rfl ?_
    refine z_i2l C dL_free_7 8 rfl ?_
    obtain ⟨σ8, hσ8, hf⟩ := x_bind hf
    refine z_lastore C dL_free_8 9 rfl hσ8 ?_
    refine z_goto C dL_free_9 15 (by decide) ?_
    refine z_iconst C dL_free_15 16 rfl 0 (by decide) ?_
    exact e_iret C (hE _ (Option.some.inj hf).symm) ⟨Nat.le_of_ble_eq_true rfl, Nat.le_of_ble_eq_true rfl⟩ dL_free_16
  | inr E4 =>
    dsimp only at hf
    by_cases hc0 : E4 = xIAE
    · subst hc0
      have hf := (if_pos rfl).symm.trans hf
      refine e_cVc C O.2.2 dL_free_4 ho4 cl10.1 rfl (cX11_freec O.1 hw4) kX11_free kvX11_free w1360 ⟨rfl, rfl⟩ ⟨Nat.le_of_ble_eq_true rfl, Nat.le_of_ble_eq_true rfl⟩ ⟨Nat.le_of_ble_eq_true rfl, Nat.le_of_ble_eq_true rfl⟩ rfl rfl (Nat.le_of_ble_eq_true rfl) [] ⟨0, 9, 12, 13⟩ [] O.2.1 (fun z hz => nomatch hz) (by decide) (by decide) w758 castIAE 12 rfl (1, 6) rfl (fun q4 => ?_)
      refine z_astore_n C dL_free_12 13 rfl rfl rfl [(3, .ref (q4)), (0, .ref (x0)), (1, .int (x1)), (2, .ref (x2))] rfl ?_
      refine z_iconst C dL_free_13 14 rfl 1 (by decide) ?_
      exact e_iret C (hE _ (Option.some.inj hf).symm) ⟨Nat.le_of_ble_eq_true rfl, Nat.le_of_ble_eq_true rfl⟩ dL_free_14
    · have hf := (if_neg hc0).symm.trans hf
      cases hf
theorem dL_go_0 : decode cL_go 0 = .ok (.aload_n 3, 1) := by decide +kernel
theorem dL_go_1 : decode cL_go 1 = .ok (.iconst 0, 1) := by decide +kernel
theorem dL_go_2 : decode cL_go 2 = .ok (.aload_n 0, 1) := by decide +kernel
theorem dL_go_3 : decode cL_go 3 = .ok (.iload_n 1, 1) := by decide +kernel
theorem dL_go_4 : decode cL_go 4 = .ok (.iload_n 2, 1) := by decide +kernel
theorem dL_go_5 : decode cL_go 5 = .ok (.invokevirtual 47, 3) := by decide +kernel
theorem dL_go_8 : decode cL_go 8 = .ok (.i2l, 1) := by decide +kernel
theorem dL_go_9 : decode cL_go 9 = .ok (.lastore, 1) := by decide +kernel
theorem dL_go_10 : decode cL_go 10 = .ok (.goto 11, 3) := by decide +kernel
theorem dL_go_13 : decode cL_go 13 = .ok (.astore 4, 2) := by decide +kernel
theorem dL_go_15 : decode cL_go 15 = .ok (.iconst 1, 1) := by decide +kernel
theorem dL_go_16 : decode cL_go 16 = .ok (.ireturn, 1) := by decide +kernel
theorem dL_go_17 : decode cL_go 17 = .ok (.astore 4, 2) := by decide +kernel
theorem dL_go_19 : decode cL_go 19 = .ok (.iconst 2, 1) := by decide +kernel
theorem dL_go_20 : decode cL_go 20 = .ok (.ireturn, 1) := by decide +kernel
theorem dL_go_21 : decode cL_go 21 = .ok (.iconst 0, 1) := by decide +kernel
theorem dL_go_22 : decode cL_go 22 = .ok (.ireturn, 1) := by decide +kernel
abbrev rmL_go : Room := { frames := 9, cells := 2, slots := 12, locals := 164 }
noncomputable def fL_go (σ : St) (x0 : Nat) (x1 : Int32) (x2 : Int32) (x3 : Nat) : Option (Int32 × St) :=
(isO σ x0 10).bind fun _ =>
(fX11_go σ x0 x1 x2).bind fun w5 =>
(match w5 with
| (Sum.inl x5r, σ5) =>
(sL σ5 x3 0 x5r.toInt64).bind fun σ9 =>
some (0, σ9)
| (Sum.inr E5, σ5) =>
if E5 = xNSE then
(some (1, σ5))
else
(if E5 = xIAE then
(some (2, σ5))
else
(none)))
set_option maxHeartbeats 4000000 in
set_option maxRecDepth 100000 in
theorem cL_goc {l : Launch} (hst : l.stackTraces = false) {adK adV : Nat → Nat} {G : xG} {A : Nat → Prop} {σ : St} {x0 : Nat} {x1 : Int32} {x2 : Int32} {x3 : Nat} {c : Int32 × St} (hf : fL_go σ x0 x1 x2 x3 = some c) : ConE l yL_go (xwsW yL_go cL_go 5 (some .int) [(0, 10, 13, 18), (0, 10, 17, 13)]) rmL_go 2 12 [.ref (x0), .int (x1), .int (x2), .ref (x3)] adK adV G A σ (some (.int c.1)) c.2 := by
  refine e_start hst rfl (Nat.le_of_ble_eq_true rfl) (fun X _ _ _ C O hE0 => ?_)
  have hE : ∀ r, c = r → eE X 2 12 (some (.int r.1)) r.2 := fun r e => e ▸ hE0
  show Vz X (0, 0) σ 0 [(0, .ref (x0)), (1, .int (x1)), (2, .int (x2)), (3, .ref (x3))] []
  unfold fL_go at hf
  refine z_aload_n C dL_go_0 1 rfl 3 rfl rfl ?_
  refine z_iconst C dL_go_1 2 rfl 0 (by decide) ?_
  refine z_aload_n C dL_go_2 3 rfl 0 rfl rfl ?_
  refine z_iload_n C dL_go_3 4 rfl 1 rfl rfl ?_
  refine z_iload_n C dL_go_4 5 rfl 2 rfl rfl ?_
  obtain ⟨o5, ho5, hf⟩ := x_bind hf
  obtain ⟨⟨r5, σ5⟩, hw5, hf⟩ := x_bind hf
  cases r5 with
  | inl x5r =>
    dsimp only at hf
    refine z_cVn C O.2.2 dL_go_5 8 rfl ho5 cl10.1 rfl (cX11_goc O.1 hw5) kX11_go kvX11_go w1239 ⟨rfl, rfl⟩ ⟨Nat.le_of_ble_eq_true rfl, Nat.le_of_ble_eq_true rfl⟩ ⟨Nat.le_of_ble_eq_true rfl, Nat.le_of_ble_eq_true rfl⟩ rfl rfl (Nat.le_of_ble_eq_true rfl) (2, 12) rfl ?_
    refine z_i2l C dL_go_8 9 rfl ?_
    obtain ⟨σ9, hσ9, hf⟩ := x_bind hf
    refine z_lastore C dL_go_9 10 rfl hσ9 ?_
    refine z_goto C dL_go_10 21 (by decide) ?_
    refine z_iconst C dL_go_21 22 rfl 0 (by decide) ?_
    exact e_iret C (hE _ (Option.some.inj hf).symm) ⟨Nat.le_of_ble_eq_true rfl, Nat.le_of_ble_eq_true rfl⟩ dL_go_22
  | inr E5 =>
    dsimp only at hf
    by_cases hc0 : E5 = xNSE
    · subst hc0
      have hf := (if_pos rfl).symm.trans hf
      refine e_cVc C O.2.2 dL_go_5 ho5 cl10.1 rfl (cX11_goc O.1 hw5) kX11_go kvX11_go w1239 ⟨rfl, rfl⟩ ⟨Nat.le_of_ble_eq_true rfl, Nat.le_of_ble_eq_true rfl⟩ ⟨Nat.le_of_ble_eq_true rfl, Nat.le_of_ble_eq_true rfl⟩ rfl rfl (Nat.le_of_ble_eq_true rfl) [] ⟨0, 10, 13, 18⟩ [⟨0, 10, 17, 13⟩] O.2.1 (fun z hz => nomatch hz) (by decide) (by decide) w972 castNSE 13 rfl (2, 12) rfl (fun q5 => ?_)
      refine z_astore C dL_go_13 15 rfl rfl [(4, .ref (q5)), (0, .ref (x0)), (1, .int (x1)), (2, .int (x2)), (3, .ref (x3))] rfl ?_
      refine z_iconst C dL_go_15 16 rfl 1 (by decide) ?_
      exact e_iret C (hE _ (Option.some.inj hf).symm) ⟨Nat.le_of_ble_eq_true rfl, Nat.le_of_ble_eq_true rfl⟩ dL_go_16
    · have hf := (if_neg hc0).symm.trans hf
      by_cases hc1 : E5 = xIAE
      · subst hc1
        have hf := (if_pos rfl).symm.trans hf
        refine e_cVc C O.2.2 dL_go_5 ho5 cl10.1 rfl (cX11_goc O.1 hw5) kX11_go kvX11_go w1239 ⟨rfl, rfl⟩ ⟨Nat.le_of_ble_eq_true rfl, Nat.le_of_ble_eq_true rfl⟩ ⟨Nat.le_of_ble_eq_true rfl, Nat.le_of_ble_eq_true rfl⟩ rfl rfl (Nat.le_of_ble_eq_true rfl) [⟨0, 10, 13, 18⟩] ⟨0, 10, 17, 13⟩ [] O.2.1 (fun z hz => by cases List.mem_singleton.mp hz; exact Or.inr ⟨by decide, xNSE, C.2.2.2.2.1 _ w972, O.2.2.2.2.2.2.2.2⟩) (by decide) (by decide) w758 castIAE 17 rfl (2, 12) rfl (fun q5 => ?_)
        refine z_astore C dL_go_17 19 rfl rfl [(4, .ref (q5)), (0, .ref (x0)), (1, .int (x1)), (2, .int (x2)), (3, .ref (x3))] rfl ?_
        refine z_iconst C dL_go_19 20 rfl 2 (by decide) ?_
        exact e_iret C (hE _ (Option.some.inj hf).symm) ⟨Nat.le_of_ble_eq_true rfl, Nat.le_of_ble_eq_true rfl⟩ dL_go_20
      · have hf := (if_neg hc1).symm.trans hf
        cases hf
theorem dL_head_0 : decode cL_head 0 = .ok (.aload 4, 2) := by decide +kernel
theorem dL_head_2 : decode cL_head 2 = .ok (.iconst 0, 1) := by decide +kernel
theorem dL_head_3 : decode cL_head 3 = .ok (.aload_n 0, 1) := by decide +kernel
theorem dL_head_4 : decode cL_head 4 = .ok (.iload_n 1, 1) := by decide +kernel
theorem dL_head_5 : decode cL_head 5 = .ok (.iload_n 2, 1) := by decide +kernel
theorem dL_head_6 : decode cL_head 6 = .ok (.iload_n 3, 1) := by decide +kernel
theorem dL_head_7 : decode cL_head 7 = .ok (.invokevirtual 75, 3) := by decide +kernel
theorem dL_head_10 : decode cL_head 10 = .ok (.i2l, 1) := by decide +kernel
theorem dL_head_11 : decode cL_head 11 = .ok (.lastore, 1) := by decide +kernel
theorem dL_head_12 : decode cL_head 12 = .ok (.goto 7, 3) := by decide +kernel
theorem dL_head_15 : decode cL_head 15 = .ok (.astore 5, 2) := by decide +kernel
theorem dL_head_17 : decode cL_head 17 = .ok (.iconst 1, 1) := by decide +kernel
theorem dL_head_18 : decode cL_head 18 = .ok (.ireturn, 1) := by decide +kernel
theorem dL_head_19 : decode cL_head 19 = .ok (.iconst 0, 1) := by decide +kernel
theorem dL_head_20 : decode cL_head 20 = .ok (.ireturn, 1) := by decide +kernel
abbrev rmL_head : Room := { frames := 9, cells := 2, slots := 12, locals := 164 }
noncomputable def fL_head (σ : St) (x0 : Nat) (x1 : Int32) (x2 : Int32) (x3 : Int32) (x4 : Nat) : Option (Int32 × St) :=
(isO σ x0 10).bind fun _ =>
(fX11_head σ x0 x1 x2 x3).bind fun w7 =>
(match w7 with
| (Sum.inl x7r, σ7) =>
(sL σ7 x4 0 x7r.toInt64).bind fun σ11 =>
some (0, σ11)
| (Sum.inr E7, σ7) =>
if E7 = xNSE then
(some (1, σ7))
else
(none))
set_option maxHeartbeats 4000000 in
set_option maxRecDepth 100000 in
theorem cL_headc {l : Launch} (hst : l.stackTraces = false) {adK adV : Nat → Nat} {G : xG} {A : Nat → Prop} {σ : St} {x0 : Nat} {x1 : Int32} {x2 : Int32} {x3 : Int32} {x4 : Nat} {c : Int32 × St} (hf : fL_head σ x0 x1 x2 x3 x4 = some c) : ConE l yL_head (xwsW yL_head cL_head 6 (some .int) [(0, 12, 15, 18)]) rmL_head 2 12 [.ref (x0), .int (x1), .int (x2), .int (x3), .ref (x4)] adK adV G A σ (some (.int c.1)) c.2 := by
  refine e_start hst rfl (Nat.le_of_ble_eq_true rfl) (fun X _ _ _ C O hE0 => ?_)
  have hE : ∀ r, c = r → eE X 2 12 (some (.int r.1)) r.2 := fun r e => e ▸ hE0
  show Vz X (0, 0) σ 0 [(0, .ref (x0)), (1, .int (x1)), (2, .int (x2)), (3, .int (x3)), (4, .ref (x4))] []
  unfold fL_head at hf
  refine z_aload C dL_head_0 2 rfl 4 rfl ?_
  refine z_iconst C dL_head_2 3 rfl 0 (by decide) ?_
  refine z_aload_n C dL_head_3 4 rfl 0 rfl rfl ?_
  refine z_iload_n C dL_head_4 5 rfl 1 rfl rfl ?_
  refine z_iload_n C dL_head_5 6 rfl 2 rfl rfl ?_
  refine z_iload_n C dL_head_6 7 rfl 3 rfl rfl ?_
  obtain ⟨o7, ho7, hf⟩ := x_bind hf
  obtain ⟨⟨r7, σ7⟩, hw7, hf⟩ := x_bind hf
  cases r7 with
  | inl x7r =>
    dsimp only at hf
    refine z_cVn C O.2.2 dL_head_7 10 rfl ho7 cl10.1 rfl (cX11_headc O.1 hw7) kX11_head kvX11_head w1327 ⟨rfl, rfl⟩ ⟨Nat.le_of_ble_eq_true rfl, Nat.le_of_ble_eq_true rfl⟩ ⟨Nat.le_of_ble_eq_true rfl, Nat.le_of_ble_eq_true rfl⟩ rfl rfl (Nat.le_of_ble_eq_true rfl) (2, 12) rfl ?_
    refine z_i2l C dL_head_10 11 rfl ?_
    obtain ⟨σ11, hσ11, hf⟩ := x_bind hf
    refine z_lastore C dL_head_11 12 rfl hσ11 ?_
    refine z_goto C dL_head_12 19 (by decide) ?_
    refine z_iconst C dL_head_19 20 rfl 0 (by decide) ?_
    exact e_iret C (hE _ (Option.some.inj hf).symm) ⟨Nat.le_of_ble_eq_true rfl, Nat.le_of_ble_eq_true rfl⟩ dL_head_20
  | inr E7 =>
    dsimp only at hf
    by_cases hc0 : E7 = xNSE
    · subst hc0
      have hf := (if_pos rfl).symm.trans hf
      refine e_cVc C O.2.2 dL_head_7 ho7 cl10.1 rfl (cX11_headc O.1 hw7) kX11_head kvX11_head w1327 ⟨rfl, rfl⟩ ⟨Nat.le_of_ble_eq_true rfl, Nat.le_of_ble_eq_true rfl⟩ ⟨Nat.le_of_ble_eq_true rfl, Nat.le_of_ble_eq_true rfl⟩ rfl rfl (Nat.le_of_ble_eq_true rfl) [] ⟨0, 12, 15, 18⟩ [] O.2.1 (fun z hz => nomatch hz) (by decide) (by decide) w972 castNSE 15 rfl (2, 12) rfl (fun q7 => ?_)
      refine z_astore C dL_head_15 17 rfl rfl [(5, .ref (q7)), (0, .ref (x0)), (1, .int (x1)), (2, .int (x2)), (3, .int (x3)), (4, .ref (x4))] rfl ?_
      refine z_iconst C dL_head_17 18 rfl 1 (by decide) ?_
      exact e_iret C (hE _ (Option.some.inj hf).symm) ⟨Nat.le_of_ble_eq_true rfl, Nat.le_of_ble_eq_true rfl⟩ dL_head_18
    · have hf := (if_neg hc0).symm.trans hf
      cases hf
theorem dL_letter_0 : decode cL_letter 0 = .ok (.aload_n 3, 1) := by decide +kernel
theorem dL_letter_1 : decode cL_letter 1 = .ok (.iconst 0, 1) := by decide +kernel
theorem dL_letter_2 : decode cL_letter 2 = .ok (.aload_n 0, 1) := by decide +kernel
theorem dL_letter_3 : decode cL_letter 3 = .ok (.iload_n 1, 1) := by decide +kernel
theorem dL_letter_4 : decode cL_letter 4 = .ok (.iload_n 2, 1) := by decide +kernel
theorem dL_letter_5 : decode cL_letter 5 = .ok (.invokevirtual 24, 3) := by decide +kernel
theorem dL_letter_8 : decode cL_letter 8 = .ok (.i2l, 1) := by decide +kernel
theorem dL_letter_9 : decode cL_letter 9 = .ok (.lastore, 1) := by decide +kernel
theorem dL_letter_10 : decode cL_letter 10 = .ok (.goto 7, 3) := by decide +kernel
theorem dL_letter_13 : decode cL_letter 13 = .ok (.astore 4, 2) := by decide +kernel
theorem dL_letter_15 : decode cL_letter 15 = .ok (.iconst 1, 1) := by decide +kernel
theorem dL_letter_16 : decode cL_letter 16 = .ok (.ireturn, 1) := by decide +kernel
theorem dL_letter_17 : decode cL_letter 17 = .ok (.iconst 0, 1) := by decide +kernel
theorem dL_letter_18 : decode cL_letter 18 = .ok (.ireturn, 1) := by decide +kernel
abbrev rmL_letter : Room := { frames := 9, cells := 1, slots := 6, locals := 163 }
noncomputable def fL_letter (σ : St) (x0 : Nat) (x1 : Int32) (x2 : Int32) (x3 : Nat) : Option (Int32 × St) :=
(isO σ x0 10).bind fun _ =>
(fX11_letter σ x0 x1 x2).bind fun w5 =>
(match w5 with
| (Sum.inl x5r, σ5) =>
(sL σ5 x3 0 x5r.toInt64).bind fun σ9 =>
some (0, σ9)
| (Sum.inr E5, σ5) =>
if E5 = xNSE then
(some (1, σ5))
else
(none))
set_option maxHeartbeats 4000000 in
set_option maxRecDepth 100000 in
theorem cL_letterc {l : Launch} (hst : l.stackTraces = false) {adK adV : Nat → Nat} {G : xG} {A : Nat → Prop} {σ : St} {x0 : Nat} {x1 : Int32} {x2 : Int32} {x3 : Nat} {c : Int32 × St} (hf : fL_letter σ x0 x1 x2 x3 = some c) : ConE l yL_letter (xwsW yL_letter cL_letter 5 (some .int) [(0, 10, 13, 18)]) rmL_letter 1 6 [.ref (x0), .int (x1), .int (x2), .ref (x3)] adK adV G A σ (some (.int c.1)) c.2 := by
  refine e_start hst rfl (Nat.le_of_ble_eq_true rfl) (fun X _ _ _ C O hE0 => ?_)
  have hE : ∀ r, c = r → eE X 1 6 (some (.int r.1)) r.2 := fun r e => e ▸ hE0
  show Vz X (0, 0) σ 0 [(0, .ref (x0)), (1, .int (x1)), (2, .int (x2)), (3, .ref (x3))] []
  unfold fL_letter at hf
  refine z_aload_n C dL_letter_0 1 rfl 3 rfl rfl ?_
  refine z_iconst C dL_letter_1 2 rfl 0 (by decide) ?_
  refine z_aload_n C dL_letter_2 3 rfl 0 rfl rfl ?_
  refine z_iload_n C dL_letter_3 4 rfl 1 rfl rfl ?_
  refine z_iload_n C dL_letter_4 5 rfl 2 rfl rfl ?_
  obtain ⟨o5, ho5, hf⟩ := x_bind hf
  obtain ⟨⟨r5, σ5⟩, hw5, hf⟩ := x_bind hf
  cases r5 with
  | inl x5r =>
    dsimp only at hf
    refine z_cVn C O.2.2 dL_letter_5 8 rfl ho5 cl10.1 rfl (cX11_letterc O.1 hw5) kX11_letter kvX11_letter w1061 ⟨rfl, rfl⟩ ⟨Nat.le_of_ble_eq_true rfl, Nat.le_of_ble_eq_true rfl⟩ ⟨Nat.le_of_ble_eq_true rfl, Nat.le_of_ble_eq_true rfl⟩ rfl rfl (Nat.le_of_ble_eq_true rfl) (1, 6) rfl ?_
    refine z_i2l C dL_letter_8 9 rfl ?_
    obtain ⟨σ9, hσ9, hf⟩ := x_bind hf
    refine z_lastore C dL_letter_9 10 rfl hσ9 ?_
    refine z_goto C dL_letter_10 17 (by decide) ?_
    refine z_iconst C dL_letter_17 18 rfl 0 (by decide) ?_
    exact e_iret C (hE _ (Option.some.inj hf).symm) ⟨Nat.le_of_ble_eq_true rfl, Nat.le_of_ble_eq_true rfl⟩ dL_letter_18
  | inr E5 =>
    dsimp only at hf
    by_cases hc0 : E5 = xNSE
    · subst hc0
      have hf := (if_pos rfl).symm.trans hf
      refine e_cVc C O.2.2 dL_letter_5 ho5 cl10.1 rfl (cX11_letterc O.1 hw5) kX11_letter kvX11_letter w1061 ⟨rfl, rfl⟩ ⟨Nat.le_of_ble_eq_true rfl, Nat.le_of_ble_eq_true rfl⟩ ⟨Nat.le_of_ble_eq_true rfl, Nat.le_of_ble_eq_true rfl⟩ rfl rfl (Nat.le_of_ble_eq_true rfl) [] ⟨0, 10, 13, 18⟩ [] O.2.1 (fun z hz => nomatch hz) (by decide) (by decide) w972 castNSE 13 rfl (1, 6) rfl (fun q5 => ?_)
      refine z_astore C dL_letter_13 15 rfl rfl [(4, .ref (q5)), (0, .ref (x0)), (1, .int (x1)), (2, .int (x2)), (3, .ref (x3))] rfl ?_
      refine z_iconst C dL_letter_15 16 rfl 1 (by decide) ?_
      exact e_iret C (hE _ (Option.some.inj hf).symm) ⟨Nat.le_of_ble_eq_true rfl, Nat.le_of_ble_eq_true rfl⟩ dL_letter_16
    · have hf := (if_neg hc0).symm.trans hf
      cases hf
theorem dL_made_0 : decode cL_made 0 = .ok (.aload 4, 2) := by decide +kernel
theorem dL_made_2 : decode cL_made 2 = .ok (.iconst 0, 1) := by decide +kernel
theorem dL_made_3 : decode cL_made 3 = .ok (.aload_n 0, 1) := by decide +kernel
theorem dL_made_4 : decode cL_made 4 = .ok (.iload_n 1, 1) := by decide +kernel
theorem dL_made_5 : decode cL_made 5 = .ok (.iload_n 2, 1) := by decide +kernel
theorem dL_made_6 : decode cL_made 6 = .ok (.iload_n 3, 1) := by decide +kernel
theorem dL_made_7 : decode cL_made 7 = .ok (.invokevirtual 85, 3) := by decide +kernel
theorem dL_made_10 : decode cL_made 10 = .ok (.i2l, 1) := by decide +kernel
theorem dL_made_11 : decode cL_made 11 = .ok (.lastore, 1) := by decide +kernel
theorem dL_made_12 : decode cL_made 12 = .ok (.goto 7, 3) := by decide +kernel
theorem dL_made_15 : decode cL_made 15 = .ok (.astore 5, 2) := by decide +kernel
theorem dL_made_17 : decode cL_made 17 = .ok (.iconst 1, 1) := by decide +kernel
theorem dL_made_18 : decode cL_made 18 = .ok (.ireturn, 1) := by decide +kernel
theorem dL_made_19 : decode cL_made 19 = .ok (.iconst 0, 1) := by decide +kernel
theorem dL_made_20 : decode cL_made 20 = .ok (.ireturn, 1) := by decide +kernel
abbrev rmL_made : Room := { frames := 9, cells := 3, slots := 18, locals := 164 }
noncomputable def fL_made (σ : St) (x0 : Nat) (x1 : Int32) (x2 : Int32) (x3 : Int32) (x4 : Nat) : Option (Int32 × St) :=
(isO σ x0 10).bind fun _ =>
(fX11_made σ x0 x1 x2 x3).bind fun w7 =>
(match w7 with
| (Sum.inl x7r, σ7) =>
(sL σ7 x4 0 x7r.toInt64).bind fun σ11 =>
some (0, σ11)
| (Sum.inr E7, σ7) =>
if E7 = xNSE then
(some (1, σ7))
else
(none))
set_option maxHeartbeats 4000000 in
set_option maxRecDepth 100000 in
theorem cL_madec {l : Launch} (hst : l.stackTraces = false) {adK adV : Nat → Nat} {G : xG} {A : Nat → Prop} {σ : St} {x0 : Nat} {x1 : Int32} {x2 : Int32} {x3 : Int32} {x4 : Nat} {c : Int32 × St} (hf : fL_made σ x0 x1 x2 x3 x4 = some c) : ConE l yL_made (xwsW yL_made cL_made 6 (some .int) [(0, 12, 15, 18)]) rmL_made 3 18 [.ref (x0), .int (x1), .int (x2), .int (x3), .ref (x4)] adK adV G A σ (some (.int c.1)) c.2 := by
  refine e_start hst rfl (Nat.le_of_ble_eq_true rfl) (fun X _ _ _ C O hE0 => ?_)
  have hE : ∀ r, c = r → eE X 3 18 (some (.int r.1)) r.2 := fun r e => e ▸ hE0
  show Vz X (0, 0) σ 0 [(0, .ref (x0)), (1, .int (x1)), (2, .int (x2)), (3, .int (x3)), (4, .ref (x4))] []
  unfold fL_made at hf
  refine z_aload C dL_made_0 2 rfl 4 rfl ?_
  refine z_iconst C dL_made_2 3 rfl 0 (by decide) ?_
  refine z_aload_n C dL_made_3 4 rfl 0 rfl rfl ?_
  refine z_iload_n C dL_made_4 5 rfl 1 rfl rfl ?_
  refine z_iload_n C dL_made_5 6 rfl 2 rfl rfl ?_
  refine z_iload_n C dL_made_6 7 rfl 3 rfl rfl ?_
  obtain ⟨o7, ho7, hf⟩ := x_bind hf
  obtain ⟨⟨r7, σ7⟩, hw7, hf⟩ := x_bind hf
  cases r7 with
  | inl x7r =>
    dsimp only at hf
    refine z_cVn C O.2.2 dL_made_7 10 rfl ho7 cl10.1 rfl (cX11_madec O.1 hw7) kX11_made kvX11_made w1407 ⟨rfl, rfl⟩ ⟨Nat.le_of_ble_eq_true rfl, Nat.le_of_ble_eq_true rfl⟩ ⟨Nat.le_of_ble_eq_true rfl, Nat.le_of_ble_eq_true rfl⟩ rfl rfl (Nat.le_of_ble_eq_true rfl) (3, 18) rfl ?_
    refine z_i2l C dL_made_10 11 rfl ?_
    obtain ⟨σ11, hσ11, hf⟩ := x_bind hf
    refine z_lastore C dL_made_11 12 rfl hσ11 ?_
    refine z_goto C dL_made_12 19 (by decide) ?_
    refine z_iconst C dL_made_19 20 rfl 0 (by decide) ?_
    exact e_iret C (hE _ (Option.some.inj hf).symm) ⟨Nat.le_of_ble_eq_true rfl, Nat.le_of_ble_eq_true rfl⟩ dL_made_20
  | inr E7 =>
    dsimp only at hf
    by_cases hc0 : E7 = xNSE
    · subst hc0
      have hf := (if_pos rfl).symm.trans hf
      refine e_cVc C O.2.2 dL_made_7 ho7 cl10.1 rfl (cX11_madec O.1 hw7) kX11_made kvX11_made w1407 ⟨rfl, rfl⟩ ⟨Nat.le_of_ble_eq_true rfl, Nat.le_of_ble_eq_true rfl⟩ ⟨Nat.le_of_ble_eq_true rfl, Nat.le_of_ble_eq_true rfl⟩ rfl rfl (Nat.le_of_ble_eq_true rfl) [] ⟨0, 12, 15, 18⟩ [] O.2.1 (fun z hz => nomatch hz) (by decide) (by decide) w972 castNSE 15 rfl (3, 18) rfl (fun q7 => ?_)
      refine z_astore C dL_made_15 17 rfl rfl [(5, .ref (q7)), (0, .ref (x0)), (1, .int (x1)), (2, .int (x2)), (3, .int (x3)), (4, .ref (x4))] rfl ?_
      refine z_iconst C dL_made_17 18 rfl 1 (by decide) ?_
      exact e_iret C (hE _ (Option.some.inj hf).symm) ⟨Nat.le_of_ble_eq_true rfl, Nat.le_of_ble_eq_true rfl⟩ dL_made_18
    · have hf := (if_neg hc0).symm.trans hf
      cases hf
theorem dL_make_0 : decode cL_make 0 = .ok (.aload_n 3, 1) := by decide +kernel
theorem dL_make_1 : decode cL_make 1 = .ok (.iconst 0, 1) := by decide +kernel
theorem dL_make_2 : decode cL_make 2 = .ok (.aload_n 0, 1) := by decide +kernel
theorem dL_make_3 : decode cL_make 3 = .ok (.iload_n 1, 1) := by decide +kernel
theorem dL_make_4 : decode cL_make 4 = .ok (.iload_n 2, 1) := by decide +kernel
theorem dL_make_5 : decode cL_make 5 = .ok (.invokevirtual 41, 3) := by decide +kernel
theorem dL_make_8 : decode cL_make 8 = .ok (.i2l, 1) := by decide +kernel
theorem dL_make_9 : decode cL_make 9 = .ok (.lastore, 1) := by decide +kernel
theorem dL_make_10 : decode cL_make 10 = .ok (.goto 7, 3) := by decide +kernel
theorem dL_make_13 : decode cL_make 13 = .ok (.astore 4, 2) := by decide +kernel
theorem dL_make_15 : decode cL_make 15 = .ok (.iconst 1, 1) := by decide +kernel
theorem dL_make_16 : decode cL_make 16 = .ok (.ireturn, 1) := by decide +kernel
theorem dL_make_17 : decode cL_make 17 = .ok (.iconst 0, 1) := by decide +kernel
theorem dL_make_18 : decode cL_make 18 = .ok (.ireturn, 1) := by decide +kernel
abbrev rmL_make : Room := { frames := 9, cells := 1, slots := 6, locals := 163 }
noncomputable def fL_make (σ : St) (x0 : Nat) (x1 : Int32) (x2 : Int32) (x3 : Nat) : Option (Int32 × St) :=
(isO σ x0 10).bind fun _ =>
(fX11_make σ x0 x1 x2).bind fun w5 =>
(match w5 with
| (Sum.inl x5r, σ5) =>
(sL σ5 x3 0 x5r.toInt64).bind fun σ9 =>
some (0, σ9)
| (Sum.inr E5, σ5) =>
if E5 = xNSE then
(some (1, σ5))
else
(none))
set_option maxHeartbeats 4000000 in
set_option maxRecDepth 100000 in
theorem cL_makec {l : Launch} (hst : l.stackTraces = false) {adK adV : Nat → Nat} {G : xG} {A : Nat → Prop} {σ : St} {x0 : Nat} {x1 : Int32} {x2 : Int32} {x3 : Nat} {c : Int32 × St} (hf : fL_make σ x0 x1 x2 x3 = some c) : ConE l yL_make (xwsW yL_make cL_make 5 (some .int) [(0, 10, 13, 18)]) rmL_make 1 6 [.ref (x0), .int (x1), .int (x2), .ref (x3)] adK adV G A σ (some (.int c.1)) c.2 := by
  refine e_start hst rfl (Nat.le_of_ble_eq_true rfl) (fun X _ _ _ C O hE0 => ?_)
  have hE : ∀ r, c = r → eE X 1 6 (some (.int r.1)) r.2 := fun r e => e ▸ hE0
  show Vz X (0, 0) σ 0 [(0, .ref (x0)), (1, .int (x1)), (2, .int (x2)), (3, .ref (x3))] []
  unfold fL_make at hf
  refine z_aload_n C dL_make_0 1 rfl 3 rfl rfl ?_
  refine z_iconst C dL_make_1 2 rfl 0 (by decide) ?_
  refine z_aload_n C dL_make_2 3 rfl 0 rfl rfl ?_
  refine z_iload_n C dL_make_3 4 rfl 1 rfl rfl ?_
  refine z_iload_n C dL_make_4 5 rfl 2 rfl rfl ?_
  obtain ⟨o5, ho5, hf⟩ := x_bind hf
  obtain ⟨⟨r5, σ5⟩, hw5, hf⟩ := x_bind hf
  cases r5 with
  | inl x5r =>
    dsimp only at hf
    refine z_cVn C O.2.2 dL_make_5 8 rfl ho5 cl10.1 rfl (cX11_makec O.1 hw5) kX11_make kvX11_make w1216 ⟨rfl, rfl⟩ ⟨Nat.le_of_ble_eq_true rfl, Nat.le_of_ble_eq_true rfl⟩ ⟨Nat.le_of_ble_eq_true rfl, Nat.le_of_ble_eq_true rfl⟩ rfl rfl (Nat.le_of_ble_eq_true rfl) (1, 6) rfl ?_
    refine z_i2l C dL_make_8 9 rfl ?_
    obtain ⟨σ9, hσ9, hf⟩ := x_bind hf
    refine z_lastore C dL_make_9 10 rfl hσ9 ?_
    refine z_goto C dL_make_10 17 (by decide) ?_
    refine z_iconst C dL_make_17 18 rfl 0 (by decide) ?_
    exact e_iret C (hE _ (Option.some.inj hf).symm) ⟨Nat.le_of_ble_eq_true rfl, Nat.le_of_ble_eq_true rfl⟩ dL_make_18
  | inr E5 =>
    dsimp only at hf
    by_cases hc0 : E5 = xNSE
    · subst hc0
      have hf := (if_pos rfl).symm.trans hf
      refine e_cVc C O.2.2 dL_make_5 ho5 cl10.1 rfl (cX11_makec O.1 hw5) kX11_make kvX11_make w1216 ⟨rfl, rfl⟩ ⟨Nat.le_of_ble_eq_true rfl, Nat.le_of_ble_eq_true rfl⟩ ⟨Nat.le_of_ble_eq_true rfl, Nat.le_of_ble_eq_true rfl⟩ rfl rfl (Nat.le_of_ble_eq_true rfl) [] ⟨0, 10, 13, 18⟩ [] O.2.1 (fun z hz => nomatch hz) (by decide) (by decide) w972 castNSE 13 rfl (1, 6) rfl (fun q5 => ?_)
      refine z_astore C dL_make_13 15 rfl rfl [(4, .ref (q5)), (0, .ref (x0)), (1, .int (x1)), (2, .int (x2)), (3, .ref (x3))] rfl ?_
      refine z_iconst C dL_make_15 16 rfl 1 (by decide) ?_
      exact e_iret C (hE _ (Option.some.inj hf).symm) ⟨Nat.le_of_ble_eq_true rfl, Nat.le_of_ble_eq_true rfl⟩ dL_make_16
    · have hf := (if_neg hc0).symm.trans hf
      cases hf
theorem dL_meet_0 : decode cL_meet 0 = .ok (.aload 4, 2) := by decide +kernel
theorem dL_meet_2 : decode cL_meet 2 = .ok (.iconst 0, 1) := by decide +kernel
theorem dL_meet_3 : decode cL_meet 3 = .ok (.aload_n 0, 1) := by decide +kernel
theorem dL_meet_4 : decode cL_meet 4 = .ok (.iload_n 1, 1) := by decide +kernel
theorem dL_meet_5 : decode cL_meet 5 = .ok (.iload_n 2, 1) := by decide +kernel
theorem dL_meet_6 : decode cL_meet 6 = .ok (.iload_n 3, 1) := by decide +kernel
theorem dL_meet_7 : decode cL_meet 7 = .ok (.invokevirtual 56, 3) := by decide +kernel
theorem dL_meet_10 : decode cL_meet 10 = .ok (.i2l, 1) := by decide +kernel
theorem dL_meet_11 : decode cL_meet 11 = .ok (.lastore, 1) := by decide +kernel
theorem dL_meet_12 : decode cL_meet 12 = .ok (.goto 7, 3) := by decide +kernel
theorem dL_meet_15 : decode cL_meet 15 = .ok (.astore 5, 2) := by decide +kernel
theorem dL_meet_17 : decode cL_meet 17 = .ok (.iconst 1, 1) := by decide +kernel
theorem dL_meet_18 : decode cL_meet 18 = .ok (.ireturn, 1) := by decide +kernel
theorem dL_meet_19 : decode cL_meet 19 = .ok (.iconst 0, 1) := by decide +kernel
theorem dL_meet_20 : decode cL_meet 20 = .ok (.ireturn, 1) := by decide +kernel
abbrev rmL_meet : Room := { frames := 9, cells := 3, slots := 18, locals := 166 }
noncomputable def fL_meet (σ : St) (x0 : Nat) (x1 : Int32) (x2 : Int32) (x3 : Int32) (x4 : Nat) : Option (Int32 × St) :=
(isO σ x0 10).bind fun _ =>
(fX11_meet σ x0 x1 x2 x3).bind fun w7 =>
(match w7 with
| (Sum.inl x7r, σ7) =>
(sL σ7 x4 0 x7r.toInt64).bind fun σ11 =>
some (0, σ11)
| (Sum.inr E7, σ7) =>
if E7 = xNSE then
(some (1, σ7))
else
(none))
set_option maxHeartbeats 4000000 in
set_option maxRecDepth 100000 in
theorem cL_meetc {l : Launch} (hst : l.stackTraces = false) {adK adV : Nat → Nat} {G : xG} {A : Nat → Prop} {σ : St} {x0 : Nat} {x1 : Int32} {x2 : Int32} {x3 : Int32} {x4 : Nat} {c : Int32 × St} (hf : fL_meet σ x0 x1 x2 x3 x4 = some c) : ConE l yL_meet (xwsW yL_meet cL_meet 6 (some .int) [(0, 12, 15, 18)]) rmL_meet 3 18 [.ref (x0), .int (x1), .int (x2), .int (x3), .ref (x4)] adK adV G A σ (some (.int c.1)) c.2 := by
  refine e_start hst rfl (Nat.le_of_ble_eq_true rfl) (fun X _ _ _ C O hE0 => ?_)
  have hE : ∀ r, c = r → eE X 3 18 (some (.int r.1)) r.2 := fun r e => e ▸ hE0
  show Vz X (0, 0) σ 0 [(0, .ref (x0)), (1, .int (x1)), (2, .int (x2)), (3, .int (x3)), (4, .ref (x4))] []
  unfold fL_meet at hf
  refine z_aload C dL_meet_0 2 rfl 4 rfl ?_
  refine z_iconst C dL_meet_2 3 rfl 0 (by decide) ?_
  refine z_aload_n C dL_meet_3 4 rfl 0 rfl rfl ?_
  refine z_iload_n C dL_meet_4 5 rfl 1 rfl rfl ?_
  refine z_iload_n C dL_meet_5 6 rfl 2 rfl rfl ?_
  refine z_iload_n C dL_meet_6 7 rfl 3 rfl rfl ?_
  obtain ⟨o7, ho7, hf⟩ := x_bind hf
  obtain ⟨⟨r7, σ7⟩, hw7, hf⟩ := x_bind hf
  cases r7 with
  | inl x7r =>
    dsimp only at hf
    refine z_cVn C O.2.2 dL_meet_7 10 rfl ho7 cl10.1 rfl (cX11_meetc O.1 hw7) kX11_meet kvX11_meet w1264 ⟨rfl, rfl⟩ ⟨Nat.le_of_ble_eq_true rfl, Nat.le_of_ble_eq_true rfl⟩ ⟨Nat.le_of_ble_eq_true rfl, Nat.le_of_ble_eq_true rfl⟩ rfl rfl (Nat.le_of_ble_eq_true rfl) (3, 18) rfl ?_
    refine z_i2l C dL_meet_10 11 rfl ?_
    obtain ⟨σ11, hσ11, hf⟩ := x_bind hf
    refine z_lastore C dL_meet_11 12 rfl hσ11 ?_
    refine z_goto C dL_meet_12 19 (by decide) ?_
    refine z_iconst C dL_meet_19 20 rfl 0 (by decide) ?_
    exact e_iret C (hE _ (Option.some.inj hf).symm) ⟨Nat.le_of_ble_eq_true rfl, Nat.le_of_ble_eq_true rfl⟩ dL_meet_20
  | inr E7 =>
    dsimp only at hf
    by_cases hc0 : E7 = xNSE
    · subst hc0
      have hf := (if_pos rfl).symm.trans hf
      refine e_cVc C O.2.2 dL_meet_7 ho7 cl10.1 rfl (cX11_meetc O.1 hw7) kX11_meet kvX11_meet w1264 ⟨rfl, rfl⟩ ⟨Nat.le_of_ble_eq_true rfl, Nat.le_of_ble_eq_true rfl⟩ ⟨Nat.le_of_ble_eq_true rfl, Nat.le_of_ble_eq_true rfl⟩ rfl rfl (Nat.le_of_ble_eq_true rfl) [] ⟨0, 12, 15, 18⟩ [] O.2.1 (fun z hz => nomatch hz) (by decide) (by decide) w972 castNSE 15 rfl (3, 18) rfl (fun q7 => ?_)
      refine z_astore C dL_meet_15 17 rfl rfl [(5, .ref (q7)), (0, .ref (x0)), (1, .int (x1)), (2, .int (x2)), (3, .int (x3)), (4, .ref (x4))] rfl ?_
      refine z_iconst C dL_meet_17 18 rfl 1 (by decide) ?_
      exact e_iret C (hE _ (Option.some.inj hf).symm) ⟨Nat.le_of_ble_eq_true rfl, Nat.le_of_ble_eq_true rfl⟩ dL_meet_18
    · have hf := (if_neg hc0).symm.trans hf
      cases hf
theorem dL_overlap_0 : decode cL_overlap 0 = .ok (.aload_n 3, 1) := by decide +kernel
theorem dL_overlap_1 : decode cL_overlap 1 = .ok (.iconst 0, 1) := by decide +kernel
theorem dL_overlap_2 : decode cL_overlap 2 = .ok (.aload_n 0, 1) := by decide +kernel
theorem dL_overlap_3 : decode cL_overlap 3 = .ok (.iload_n 1, 1) := by decide +kernel
theorem dL_overlap_4 : decode cL_overlap 4 = .ok (.iload_n 2, 1) := by decide +kernel
theorem dL_overlap_5 : decode cL_overlap 5 = .ok (.invokevirtual 65, 3) := by decide +kernel
theorem dL_overlap_8 : decode cL_overlap 8 = .ok (.i2l, 1) := by decide +kernel
theorem dL_overlap_9 : decode cL_overlap 9 = .ok (.lastore, 1) := by decide +kernel
theorem dL_overlap_10 : decode cL_overlap 10 = .ok (.goto 7, 3) := by decide +kernel
theorem dL_overlap_13 : decode cL_overlap 13 = .ok (.astore 4, 2) := by decide +kernel
theorem dL_overlap_15 : decode cL_overlap 15 = .ok (.iconst 1, 1) := by decide +kernel
theorem dL_overlap_16 : decode cL_overlap 16 = .ok (.ireturn, 1) := by decide +kernel
theorem dL_overlap_17 : decode cL_overlap 17 = .ok (.iconst 0, 1) := by decide +kernel
theorem dL_overlap_18 : decode cL_overlap 18 = .ok (.ireturn, 1) := by decide +kernel
abbrev rmL_overlap : Room := { frames := 9, cells := 2, slots := 12, locals := 211 }
noncomputable def fL_overlap (σ : St) (x0 : Nat) (x1 : Int32) (x2 : Int32) (x3 : Nat) : Option (Int32 × St) :=
(isO σ x0 10).bind fun _ =>
(fX11_overlap σ x0 x1 x2).bind fun w5 =>
(match w5 with
| (Sum.inl x5r, σ5) =>
(sL σ5 x3 0 x5r.toInt64).bind fun σ9 =>
some (0, σ9)
| (Sum.inr E5, σ5) =>
if E5 = xNSE then
(some (1, σ5))
else
(none))
set_option maxHeartbeats 4000000 in
set_option maxRecDepth 100000 in
theorem cL_overlapc {l : Launch} (hst : l.stackTraces = false) {adK adV : Nat → Nat} {G : xG} {A : Nat → Prop} {σ : St} {x0 : Nat} {x1 : Int32} {x2 : Int32} {x3 : Nat} {c : Int32 × St} (hf : fL_overlap σ x0 x1 x2 x3 = some c) : ConE l yL_overlap (xwsW yL_overlap cL_overlap 5 (some .int) [(0, 10, 13, 18)]) rmL_overlap 2 12 [.ref (x0), .int (x1), .int (x2), .ref (x3)] adK adV G A σ (some (.int c.1)) c.2 := by
  refine e_start hst rfl (Nat.le_of_ble_eq_true rfl) (fun X _ _ _ C O hE0 => ?_)
  have hE : ∀ r, c = r → eE X 2 12 (some (.int r.1)) r.2 := fun r e => e ▸ hE0
  show Vz X (0, 0) σ 0 [(0, .ref (x0)), (1, .int (x1)), (2, .int (x2)), (3, .ref (x3))] []
  unfold fL_overlap at hf
  refine z_aload_n C dL_overlap_0 1 rfl 3 rfl rfl ?_
  refine z_iconst C dL_overlap_1 2 rfl 0 (by decide) ?_
  refine z_aload_n C dL_overlap_2 3 rfl 0 rfl rfl ?_
  refine z_iload_n C dL_overlap_3 4 rfl 1 rfl rfl ?_
  refine z_iload_n C dL_overlap_4 5 rfl 2 rfl rfl ?_
  obtain ⟨o5, ho5, hf⟩ := x_bind hf
  obtain ⟨⟨r5, σ5⟩, hw5, hf⟩ := x_bind hf
  cases r5 with
  | inl x5r =>
    dsimp only at hf
    refine z_cVn C O.2.2 dL_overlap_5 8 rfl ho5 cl10.1 rfl (cX11_overlapc O.1 hw5) kX11_overlap kvX11_overlap w1290 ⟨rfl, rfl⟩ ⟨Nat.le_of_ble_eq_true rfl, Nat.le_of_ble_eq_true rfl⟩ ⟨Nat.le_of_ble_eq_true rfl, Nat.le_of_ble_eq_true rfl⟩ rfl rfl (Nat.le_of_ble_eq_true rfl) (2, 12) rfl ?_
    refine z_i2l C dL_overlap_8 9 rfl ?_
    obtain ⟨σ9, hσ9, hf⟩ := x_bind hf
    refine z_lastore C dL_overlap_9 10 rfl hσ9 ?_
    refine z_goto C dL_overlap_10 17 (by decide) ?_
    refine z_iconst C dL_overlap_17 18 rfl 0 (by decide) ?_
    exact e_iret C (hE _ (Option.some.inj hf).symm) ⟨Nat.le_of_ble_eq_true rfl, Nat.le_of_ble_eq_true rfl⟩ dL_overlap_18
  | inr E5 =>
    dsimp only at hf
    by_cases hc0 : E5 = xNSE
    · subst hc0
      have hf := (if_pos rfl).symm.trans hf
      refine e_cVc C O.2.2 dL_overlap_5 ho5 cl10.1 rfl (cX11_overlapc O.1 hw5) kX11_overlap kvX11_overlap w1290 ⟨rfl, rfl⟩ ⟨Nat.le_of_ble_eq_true rfl, Nat.le_of_ble_eq_true rfl⟩ ⟨Nat.le_of_ble_eq_true rfl, Nat.le_of_ble_eq_true rfl⟩ rfl rfl (Nat.le_of_ble_eq_true rfl) [] ⟨0, 10, 13, 18⟩ [] O.2.1 (fun z hz => nomatch hz) (by decide) (by decide) w972 castNSE 13 rfl (2, 12) rfl (fun q5 => ?_)
      refine z_astore C dL_overlap_13 15 rfl rfl [(4, .ref (q5)), (0, .ref (x0)), (1, .int (x1)), (2, .int (x2)), (3, .ref (x3))] rfl ?_
      refine z_iconst C dL_overlap_15 16 rfl 1 (by decide) ?_
      exact e_iret C (hE _ (Option.some.inj hf).symm) ⟨Nat.le_of_ble_eq_true rfl, Nat.le_of_ble_eq_true rfl⟩ dL_overlap_16
    · have hf := (if_neg hc0).symm.trans hf
      cases hf
theorem dL_run_0 : decode cL_run 0 = .ok (.aload 4, 2) := by decide +kernel
theorem dL_run_2 : decode cL_run 2 = .ok (.iconst 0, 1) := by decide +kernel
theorem dL_run_3 : decode cL_run 3 = .ok (.aload_n 0, 1) := by decide +kernel
theorem dL_run_4 : decode cL_run 4 = .ok (.iload_n 1, 1) := by decide +kernel
theorem dL_run_5 : decode cL_run 5 = .ok (.iload_n 2, 1) := by decide +kernel
theorem dL_run_6 : decode cL_run 6 = .ok (.iload_n 3, 1) := by decide +kernel
theorem dL_run_7 : decode cL_run 7 = .ok (.invokevirtual 44, 3) := by decide +kernel
theorem dL_run_10 : decode cL_run 10 = .ok (.i2l, 1) := by decide +kernel
theorem dL_run_11 : decode cL_run 11 = .ok (.lastore, 1) := by decide +kernel
theorem dL_run_12 : decode cL_run 12 = .ok (.goto 11, 3) := by decide +kernel
theorem dL_run_15 : decode cL_run 15 = .ok (.astore 5, 2) := by decide +kernel
theorem dL_run_17 : decode cL_run 17 = .ok (.iconst 1, 1) := by decide +kernel
theorem dL_run_18 : decode cL_run 18 = .ok (.ireturn, 1) := by decide +kernel
theorem dL_run_19 : decode cL_run 19 = .ok (.astore 5, 2) := by decide +kernel
theorem dL_run_21 : decode cL_run 21 = .ok (.iconst 2, 1) := by decide +kernel
theorem dL_run_22 : decode cL_run 22 = .ok (.ireturn, 1) := by decide +kernel
theorem dL_run_23 : decode cL_run 23 = .ok (.iconst 0, 1) := by decide +kernel
theorem dL_run_24 : decode cL_run 24 = .ok (.ireturn, 1) := by decide +kernel
abbrev rmL_run : Room := { frames := 9, cells := 3, slots := 18, locals := 166 }
noncomputable def fL_run (σ : St) (x0 : Nat) (x1 : Int32) (x2 : Int32) (x3 : Int32) (x4 : Nat) : Option (Int32 × St) :=
(isO σ x0 10).bind fun _ =>
(fX11_run σ x0 x1 x2 x3).bind fun w7 =>
(match w7 with
| (Sum.inl x7r, σ7) =>
(sL σ7 x4 0 x7r.toInt64).bind fun σ11 =>
some (0, σ11)
| (Sum.inr E7, σ7) =>
if E7 = xNSE then
(some (1, σ7))
else
(if E7 = xIAE then
(some (2, σ7))
else
(none)))
set_option maxHeartbeats 4000000 in
set_option maxRecDepth 100000 in
theorem cL_runc {l : Launch} (hst : l.stackTraces = false) {adK adV : Nat → Nat} {G : xG} {A : Nat → Prop} {σ : St} {x0 : Nat} {x1 : Int32} {x2 : Int32} {x3 : Int32} {x4 : Nat} {c : Int32 × St} (hf : fL_run σ x0 x1 x2 x3 x4 = some c) : ConE l yL_run (xwsW yL_run cL_run 6 (some .int) [(0, 12, 15, 18), (0, 12, 19, 13)]) rmL_run 3 18 [.ref (x0), .int (x1), .int (x2), .int (x3), .ref (x4)] adK adV G A σ (some (.int c.1)) c.2 := by
  refine e_start hst rfl (Nat.le_of_ble_eq_true rfl) (fun X _ _ _ C O hE0 => ?_)
  have hE : ∀ r, c = r → eE X 3 18 (some (.int r.1)) r.2 := fun r e => e ▸ hE0
  show Vz X (0, 0) σ 0 [(0, .ref (x0)), (1, .int (x1)), (2, .int (x2)), (3, .int (x3)), (4, .ref (x4))] []
  unfold fL_run at hf
  refine z_aload C dL_run_0 2 rfl 4 rfl ?_
  refine z_iconst C dL_run_2 3 rfl 0 (by decide) ?_
  refine z_aload_n C dL_run_3 4 rfl 0 rfl rfl ?_
  refine z_iload_n C dL_run_4 5 rfl 1 rfl rfl ?_
  refine z_iload_n C dL_run_5 6 rfl 2 rfl rfl ?_
  refine z_iload_n C dL_run_6 7 rfl 3 rfl rfl ?_
  obtain ⟨o7, ho7, hf⟩ := x_bind hf
  obtain ⟨⟨r7, σ7⟩, hw7, hf⟩ := x_bind hf
  cases r7 with
  | inl x7r =>
    dsimp only at hf
    refine z_cVn C O.2.2 dL_run_7 10 rfl ho7 cl10.1 rfl (cX11_runc O.1 hw7) kX11_run kvX11_run w1228 ⟨rfl, rfl⟩ ⟨Nat.le_of_ble_eq_true rfl, Nat.le_of_ble_eq_true rfl⟩ ⟨Nat.le_of_ble_eq_true rfl, Nat.le_of_ble_eq_true rfl⟩ rfl rfl (Nat.le_of_ble_eq_true rfl) (3, 18) rfl ?_
    refine z_i2l C dL_run_10 11 rfl ?_
    obtain ⟨σ11, hσ11, hf⟩ := x_bind hf
    refine z_lastore C dL_run_11 12 rfl hσ11 ?_
    refine z_goto C dL_run_12 23 (by decide) ?_
    refine z_iconst C dL_run_23 24 rfl 0 (by decide) ?_
    exact e_iret C (hE _ (Option.some.inj hf).symm) ⟨Nat.le_of_ble_eq_true rfl, Nat.le_of_ble_eq_true rfl⟩ dL_run_24
  | inr E7 =>
    dsimp only at hf
    by_cases hc0 : E7 = xNSE
    · subst hc0
      have hf := (if_pos rfl).symm.trans hf
      refine e_cVc C O.2.2 dL_run_7 ho7 cl10.1 rfl (cX11_runc O.1 hw7) kX11_run kvX11_run w1228 ⟨rfl, rfl⟩ ⟨Nat.le_of_ble_eq_true rfl, Nat.le_of_ble_eq_true rfl⟩ ⟨Nat.le_of_ble_eq_true rfl, Nat.le_of_ble_eq_true rfl⟩ rfl rfl (Nat.le_of_ble_eq_true rfl) [] ⟨0, 12, 15, 18⟩ [⟨0, 12, 19, 13⟩] O.2.1 (fun z hz => nomatch hz) (by decide) (by decide) w972 castNSE 15 rfl (3, 18) rfl (fun q7 => ?_)
      refine z_astore C dL_run_15 17 rfl rfl [(5, .ref (q7)), (0, .ref (x0)), (1, .int (x1)), (2, .int (x2)), (3, .int (x3)), (4, .ref (x4))] rfl ?_
      refine z_iconst C dL_run_17 18 rfl 1 (by decide) ?_
      exact e_iret C (hE _ (Option.some.inj hf).symm) ⟨Nat.le_of_ble_eq_true rfl, Nat.le_of_ble_eq_true rfl⟩ dL_run_18
    · have hf := (if_neg hc0).symm.trans hf
      by_cases hc1 : E7 = xIAE
      · subst hc1
        have hf := (if_pos rfl).symm.trans hf
        refine e_cVc C O.2.2 dL_run_7 ho7 cl10.1 rfl (cX11_runc O.1 hw7) kX11_run kvX11_run w1228 ⟨rfl, rfl⟩ ⟨Nat.le_of_ble_eq_true rfl, Nat.le_of_ble_eq_true rfl⟩ ⟨Nat.le_of_ble_eq_true rfl, Nat.le_of_ble_eq_true rfl⟩ rfl rfl (Nat.le_of_ble_eq_true rfl) [⟨0, 12, 15, 18⟩] ⟨0, 12, 19, 13⟩ [] O.2.1 (fun z hz => by cases List.mem_singleton.mp hz; exact Or.inr ⟨by decide, xNSE, C.2.2.2.2.1 _ w972, O.2.2.2.2.2.2.2.2⟩) (by decide) (by decide) w758 castIAE 19 rfl (3, 18) rfl (fun q7 => ?_)
        refine z_astore C dL_run_19 21 rfl rfl [(5, .ref (q7)), (0, .ref (x0)), (1, .int (x1)), (2, .int (x2)), (3, .int (x3)), (4, .ref (x4))] rfl ?_
        refine z_iconst C dL_run_21 22 rfl 2 (by decide) ?_
        exact e_iret C (hE _ (Option.some.inj hf).symm) ⟨Nat.le_of_ble_eq_true rfl, Nat.le_of_ble_eq_true rfl⟩ dL_run_22
      · have hf := (if_neg hc1).symm.trans hf
        cases hf
theorem dL_side_0 : decode cL_side 0 = .ok (.aload 4, 2) := by decide +kernel
theorem dL_side_2 : decode cL_side 2 = .ok (.iconst 0, 1) := by decide +kernel
theorem dL_side_3 : decode cL_side 3 = .ok (.aload_n 0, 1) := by decide +kernel
theorem dL_side_4 : decode cL_side 4 = .ok (.iload_n 1, 1) := by decide +kernel
theorem dL_side_5 : decode cL_side 5 = .ok (.iload_n 2, 1) := by decide +kernel
theorem dL_side_6 : decode cL_side 6 = .ok (.iload_n 3, 1) := by decide +kernel
theorem dL_side_7 : decode cL_side 7 = .ok (.invokevirtual 20, 3) := by decide +kernel
theorem dL_side_10 : decode cL_side 10 = .ok (.i2l, 1) := by decide +kernel
theorem dL_side_11 : decode cL_side 11 = .ok (.lastore, 1) := by decide +kernel
theorem dL_side_12 : decode cL_side 12 = .ok (.goto 7, 3) := by decide +kernel
theorem dL_side_15 : decode cL_side 15 = .ok (.astore 5, 2) := by decide +kernel
theorem dL_side_17 : decode cL_side 17 = .ok (.iconst 1, 1) := by decide +kernel
theorem dL_side_18 : decode cL_side 18 = .ok (.ireturn, 1) := by decide +kernel
theorem dL_side_19 : decode cL_side 19 = .ok (.iconst 0, 1) := by decide +kernel
theorem dL_side_20 : decode cL_side 20 = .ok (.ireturn, 1) := by decide +kernel
abbrev rmL_side : Room := { frames := 9, cells := 2, slots := 12, locals := 164 }
noncomputable def fL_side (σ : St) (x0 : Nat) (x1 : Int32) (x2 : Int32) (x3 : Int32) (x4 : Nat) : Option (Int32 × St) :=
(isO σ x0 10).bind fun _ =>
(fX11_side σ x0 x1 x2 x3).bind fun w7 =>
(match w7 with
| (Sum.inl x7r, σ7) =>
(sL σ7 x4 0 x7r.toInt64).bind fun σ11 =>
some (0, σ11)
| (Sum.inr E7, σ7) =>
if E7 = xNSE then
(some (1, σ7))
else
(none))
set_option maxHeartbeats 4000000 in
set_option maxRecDepth 100000 in
theorem cL_sidec {l : Launch} (hst : l.stackTraces = false) {adK adV : Nat → Nat} {G : xG} {A : Nat → Prop} {σ : St} {x0 : Nat} {x1 : Int32} {x2 : Int32} {x3 : Int32} {x4 : Nat} {c : Int32 × St} (hf : fL_side σ x0 x1 x2 x3 x4 = some c) : ConE l yL_side (xwsW yL_side cL_side 6 (some .int) [(0, 12, 15, 18)]) rmL_side 2 12 [.ref (x0), .int (x1), .int (x2), .int (x3), .ref (x4)] adK adV G A σ (some (.int c.1)) c.2 := by
  refine e_start hst rfl (Nat.le_of_ble_eq_true rfl) (fun X _ _ _ C O hE0 => ?_)
  have hE : ∀ r, c = r → eE X 2 12 (some (.int r.1)) r.2 := fun r e => e ▸ hE0
  show Vz X (0, 0) σ 0 [(0, .ref (x0)), (1, .int (x1)), (2, .int (x2)), (3, .int (x3)), (4, .ref (x4))] []
  unfold fL_side at hf
  refine z_aload C dL_side_0 2 rfl 4 rfl ?_
  refine z_iconst C dL_side_2 3 rfl 0 (by decide) ?_
  refine z_aload_n C dL_side_3 4 rfl 0 rfl rfl ?_
  refine z_iload_n C dL_side_4 5 rfl 1 rfl rfl ?_
  refine z_iload_n C dL_side_5 6 rfl 2 rfl rfl ?_
  refine z_iload_n C dL_side_6 7 rfl 3 rfl rfl ?_
  obtain ⟨o7, ho7, hf⟩ := x_bind hf
  obtain ⟨⟨r7, σ7⟩, hw7, hf⟩ := x_bind hf
  cases r7 with
  | inl x7r =>
    dsimp only at hf
    refine z_cVn C O.2.2 dL_side_7 10 rfl ho7 cl10.1 rfl (cX11_sidec O.1 hw7) kX11_side kvX11_side w1045 ⟨rfl, rfl⟩ ⟨Nat.le_of_ble_eq_true rfl, Nat.le_of_ble_eq_true rfl⟩ ⟨Nat.le_of_ble_eq_true rfl, Nat.le_of_ble_eq_true rfl⟩ rfl rfl (Nat.le_of_ble_eq_true rfl) (2, 12) rfl ?_
    refine z_i2l C dL_side_10 11 rfl ?_
    obtain ⟨σ11, hσ11, hf⟩ := x_bind hf
    refine z_lastore C dL_side_11 12 rfl hσ11 ?_
    refine z_goto C dL_side_12 19 (by decide) ?_
    refine z_iconst C dL_side_19 20 rfl 0 (by decide) ?_
    exact e_iret C (hE _ (Option.some.inj hf).symm) ⟨Nat.le_of_ble_eq_true rfl, Nat.le_of_ble_eq_true rfl⟩ dL_side_20
  | inr E7 =>
    dsimp only at hf
    by_cases hc0 : E7 = xNSE
    · subst hc0
      have hf := (if_pos rfl).symm.trans hf
      refine e_cVc C O.2.2 dL_side_7 ho7 cl10.1 rfl (cX11_sidec O.1 hw7) kX11_side kvX11_side w1045 ⟨rfl, rfl⟩ ⟨Nat.le_of_ble_eq_true rfl, Nat.le_of_ble_eq_true rfl⟩ ⟨Nat.le_of_ble_eq_true rfl, Nat.le_of_ble_eq_true rfl⟩ rfl rfl (Nat.le_of_ble_eq_true rfl) [] ⟨0, 12, 15, 18⟩ [] O.2.1 (fun z hz => nomatch hz) (by decide) (by decide) w972 castNSE 15 rfl (2, 12) rfl (fun q7 => ?_)
      refine z_astore C dL_side_15 17 rfl rfl [(5, .ref (q7)), (0, .ref (x0)), (1, .int (x1)), (2, .int (x2)), (3, .int (x3)), (4, .ref (x4))] rfl ?_
      refine z_iconst C dL_side_17 18 rfl 1 (by decide) ?_
      exact e_iret C (hE _ (Option.some.inj hf).symm) ⟨Nat.le_of_ble_eq_true rfl, Nat.le_of_ble_eq_true rfl⟩ dL_side_18
    · have hf := (if_neg hc0).symm.trans hf
      cases hf
theorem dL_step_0 : decode cL_step 0 = .ok (.aload 4, 2) := by decide +kernel
theorem dL_step_2 : decode cL_step 2 = .ok (.iconst 0, 1) := by decide +kernel
theorem dL_step_3 : decode cL_step 3 = .ok (.aload_n 0, 1) := by decide +kernel
theorem dL_step_4 : decode cL_step 4 = .ok (.iload_n 1, 1) := by decide +kernel
theorem dL_step_5 : decode cL_step 5 = .ok (.iload_n 2, 1) := by decide +kernel
theorem dL_step_6 : decode cL_step 6 = .ok (.iload_n 3, 1) := by decide +kernel
theorem dL_step_7 : decode cL_step 7 = .ok (.invokevirtual 37, 3) := by decide +kernel
theorem dL_step_10 : decode cL_step 10 = .ok (.i2l, 1) := by decide +kernel
theorem dL_step_11 : decode cL_step 11 = .ok (.lastore, 1) := by decide +kernel
theorem dL_step_12 : decode cL_step 12 = .ok (.goto 7, 3) := by decide +kernel
theorem dL_step_15 : decode cL_step 15 = .ok (.astore 5, 2) := by decide +kernel
theorem dL_step_17 : decode cL_step 17 = .ok (.iconst 1, 1) := by decide +kernel
theorem dL_step_18 : decode cL_step 18 = .ok (.ireturn, 1) := by decide +kernel
theorem dL_step_19 : decode cL_step 19 = .ok (.iconst 0, 1) := by decide +kernel
theorem dL_step_20 : decode cL_step 20 = .ok (.ireturn, 1) := by decide +kernel
abbrev rmL_step : Room := { frames := 9, cells := 4, slots := 24, locals := 165 }
noncomputable def fL_step (σ : St) (x0 : Nat) (x1 : Int32) (x2 : Int32) (x3 : Int32) (x4 : Nat) : Option (Int32 × St) :=
(isO σ x0 10).bind fun _ =>
(fX11_step σ x0 x1 x2 x3).bind fun w7 =>
(match w7 with
| (Sum.inl x7r, σ7) =>
(sL σ7 x4 0 x7r.toInt64).bind fun σ11 =>
some (0, σ11)
| (Sum.inr E7, σ7) =>
if E7 = xNSE then
(some (1, σ7))
else
(none))
set_option maxHeartbeats 4000000 in
set_option maxRecDepth 100000 in
theorem cL_stepc {l : Launch} (hst : l.stackTraces = false) {adK adV : Nat → Nat} {G : xG} {A : Nat → Prop} {σ : St} {x0 : Nat} {x1 : Int32} {x2 : Int32} {x3 : Int32} {x4 : Nat} {c : Int32 × St} (hf : fL_step σ x0 x1 x2 x3 x4 = some c) : ConE l yL_step (xwsW yL_step cL_step 6 (some .int) [(0, 12, 15, 18)]) rmL_step 4 24 [.ref (x0), .int (x1), .int (x2), .int (x3), .ref (x4)] adK adV G A σ (some (.int c.1)) c.2 := by
  refine e_start hst rfl (Nat.le_of_ble_eq_true rfl) (fun X _ _ _ C O hE0 => ?_)
  have hE : ∀ r, c = r → eE X 4 24 (some (.int r.1)) r.2 := fun r e => e ▸ hE0
  show Vz X (0, 0) σ 0 [(0, .ref (x0)), (1, .int (x1)), (2, .int (x2)), (3, .int (x3)), (4, .ref (x4))] []
  unfold fL_step at hf
  refine z_aload C dL_step_0 2 rfl 4 rfl ?_
  refine z_iconst C dL_step_2 3 rfl 0 (by decide) ?_
  refine z_aload_n C dL_step_3 4 rfl 0 rfl rfl ?_
  refine z_iload_n C dL_step_4 5 rfl 1 rfl rfl ?_
  refine z_iload_n C dL_step_5 6 rfl 2 rfl rfl ?_
  refine z_iload_n C dL_step_6 7 rfl 3 rfl rfl ?_
  obtain ⟨o7, ho7, hf⟩ := x_bind hf
  obtain ⟨⟨r7, σ7⟩, hw7, hf⟩ := x_bind hf
  cases r7 with
  | inl x7r =>
    dsimp only at hf
    refine z_cVn C O.2.2 dL_step_7 10 rfl ho7 cl10.1 rfl (cX11_stepc O.1 hw7) kX11_step kvX11_step w1206 ⟨rfl, rfl⟩ ⟨Nat.le_of_ble_eq_true rfl, Nat.le_of_ble_eq_true rfl⟩ ⟨Nat.le_of_ble_eq_true rfl, Nat.le_of_ble_eq_true rfl⟩ rfl rfl (Nat.le_of_ble_eq_true rfl) (4, 24) rfl ?_
    refine z_i2l C dL_step_10 11 rfl ?_
    obtain ⟨σ11, hσ11, hf⟩ := x_bind hf
    refine z_lastore C dL_step_11 12 rfl hσ11 ?_
    refine z_goto C dL_step_12 19 (by decide) ?_
    refine z_iconst C dL_step_19 20 rfl 0 (by decide) ?_
    exact e_iret C (hE _ (Option.some.inj hf).symm) ⟨Nat.le_of_ble_eq_true rfl, Nat.le_of_ble_eq_true rfl⟩ dL_step_20
  | inr E7 =>
    dsimp only at hf
    by_cases hc0 : E7 = xNSE
    · subst hc0
      have hf := (if_pos rfl).symm.trans hf
      refine e_cVc C O.2.2 dL_step_7 ho7 cl10.1 rfl (cX11_stepc O.1 hw7) kX11_step kvX11_step w1206 ⟨rfl, rfl⟩ ⟨Nat.le_of_ble_eq_true rfl, Nat.le_of_ble_eq_true rfl⟩ ⟨Nat.le_of_ble_eq_true rfl, Nat.le_of_ble_eq_true rfl⟩ rfl rfl (Nat.le_of_ble_eq_true rfl) [] ⟨0, 12, 15, 18⟩ [] O.2.1 (fun z hz => nomatch hz) (by decide) (by decide) w972 castNSE 15 rfl (4, 24) rfl (fun q7 => ?_)
      refine z_astore C dL_step_15 17 rfl rfl [(5, .ref (q7)), (0, .ref (x0)), (1, .int (x1)), (2, .int (x2)), (3, .int (x3)), (4, .ref (x4))] rfl ?_
      refine z_iconst C dL_step_17 18 rfl 1 (by decide) ?_
      exact e_iret C (hE _ (Option.some.inj hf).symm) ⟨Nat.le_of_ble_eq_true rfl, Nat.le_of_ble_eq_true rfl⟩ dL_step_18
    · have hf := (if_neg hc0).symm.trans hf
      cases hf
theorem dL_take_0 : decode cL_take 0 = .ok (.aload 4, 2) := by decide +kernel
theorem dL_take_2 : decode cL_take 2 = .ok (.iconst 0, 1) := by decide +kernel
theorem dL_take_3 : decode cL_take 3 = .ok (.aload_n 0, 1) := by decide +kernel
theorem dL_take_4 : decode cL_take 4 = .ok (.iload_n 1, 1) := by decide +kernel
theorem dL_take_5 : decode cL_take 5 = .ok (.iload_n 2, 1) := by decide +kernel
theorem dL_take_6 : decode cL_take 6 = .ok (.iload_n 3, 1) := by decide +kernel
theorem dL_take_7 : decode cL_take 7 = .ok (.invokevirtual 50, 3) := by decide +kernel
theorem dL_take_10 : decode cL_take 10 = .ok (.i2l, 1) := by decide +kernel
theorem dL_take_11 : decode cL_take 11 = .ok (.lastore, 1) := by decide +kernel
theorem dL_take_12 : decode cL_take 12 = .ok (.goto 7, 3) := by decide +kernel
theorem dL_take_15 : decode cL_take 15 = .ok (.astore 5, 2) := by decide +kernel
theorem dL_take_17 : decode cL_take 17 = .ok (.iconst 1, 1) := by decide +kernel
theorem dL_take_18 : decode cL_take 18 = .ok (.ireturn, 1) := by decide +kernel
theorem dL_take_19 : decode cL_take 19 = .ok (.iconst 0, 1) := by decide +kernel
theorem dL_take_20 : decode cL_take 20 = .ok (.ireturn, 1) := by decide +kernel
abbrev rmL_take : Room := { frames := 9, cells := 3, slots := 18, locals := 164 }
noncomputable def fL_take (σ : St) (x0 : Nat) (x1 : Int32) (x2 : Int32) (x3 : Int32) (x4 : Nat) : Option (Int32 × St) :=
(isO σ x0 10).bind fun _ =>
(fX11_take σ x0 x1 x2 x3).bind fun w7 =>
(match w7 with
| (Sum.inl x7r, σ7) =>
(sL σ7 x4 0 x7r.toInt64).bind fun σ11 =>
some (0, σ11)
| (Sum.inr E7, σ7) =>
if E7 = xNSE then
(some (1, σ7))
else
(none))
set_option maxHeartbeats 4000000 in
set_option maxRecDepth 100000 in
theorem cL_takec {l : Launch} (hst : l.stackTraces = false) {adK adV : Nat → Nat} {G : xG} {A : Nat → Prop} {σ : St} {x0 : Nat} {x1 : Int32} {x2 : Int32} {x3 : Int32} {x4 : Nat} {c : Int32 × St} (hf : fL_take σ x0 x1 x2 x3 x4 = some c) : ConE l yL_take (xwsW yL_take cL_take 6 (some .int) [(0, 12, 15, 18)]) rmL_take 3 18 [.ref (x0), .int (x1), .int (x2), .int (x3), .ref (x4)] adK adV G A σ (some (.int c.1)) c.2 := by
  refine e_start hst rfl (Nat.le_of_ble_eq_true rfl) (fun X _ _ _ C O hE0 => ?_)
  have hE : ∀ r, c = r → eE X 3 18 (some (.int r.1)) r.2 := fun r e => e ▸ hE0
  show Vz X (0, 0) σ 0 [(0, .ref (x0)), (1, .int (x1)), (2, .int (x2)), (3, .int (x3)), (4, .ref (x4))] []
  unfold fL_take at hf
  refine z_aload C dL_take_0 2 rfl 4 rfl ?_
  refine z_iconst C dL_take_2 3 rfl 0 (by decide) ?_
  refine z_aload_n C dL_take_3 4 rfl 0 rfl rfl ?_
  refine z_iload_n C dL_take_4 5 rfl 1 rfl rfl ?_
  refine z_iload_n C dL_take_5 6 rfl 2 rfl rfl ?_
  refine z_iload_n C dL_take_6 7 rfl 3 rfl rfl ?_
  obtain ⟨o7, ho7, hf⟩ := x_bind hf
  obtain ⟨⟨r7, σ7⟩, hw7, hf⟩ := x_bind hf
  cases r7 with
  | inl x7r =>
    dsimp only at hf
    refine z_cVn C O.2.2 dL_take_7 10 rfl ho7 cl10.1 rfl (cX11_takec O.1 hw7) kX11_take kvX11_take w1246 ⟨rfl, rfl⟩ ⟨Nat.le_of_ble_eq_true rfl, Nat.le_of_ble_eq_true rfl⟩ ⟨Nat.le_of_ble_eq_true rfl, Nat.le_of_ble_eq_true rfl⟩ rfl rfl (Nat.le_of_ble_eq_true rfl) (3, 18) rfl ?_
    refine z_i2l C dL_take_10 11 rfl ?_
    obtain ⟨σ11, hσ11, hf⟩ := x_bind hf
    refine z_lastore C dL_take_11 12 rfl hσ11 ?_
    refine z_goto C dL_take_12 19 (by decide) ?_
    refine z_iconst C dL_take_19 20 rfl 0 (by decide) ?_
    exact e_iret C (hE _ (Option.some.inj hf).symm) ⟨Nat.le_of_ble_eq_true rfl, Nat.le_of_ble_eq_true rfl⟩ dL_take_20
  | inr E7 =>
    dsimp only at hf
    by_cases hc0 : E7 = xNSE
    · subst hc0
      have hf := (if_pos rfl).symm.trans hf
      refine e_cVc C O.2.2 dL_take_7 ho7 cl10.1 rfl (cX11_takec O.1 hw7) kX11_take kvX11_take w1246 ⟨rfl, rfl⟩ ⟨Nat.le_of_ble_eq_true rfl, Nat.le_of_ble_eq_true rfl⟩ ⟨Nat.le_of_ble_eq_true rfl, Nat.le_of_ble_eq_true rfl⟩ rfl rfl (Nat.le_of_ble_eq_true rfl) [] ⟨0, 12, 15, 18⟩ [] O.2.1 (fun z hz => nomatch hz) (by decide) (by decide) w972 castNSE 15 rfl (3, 18) rfl (fun q7 => ?_)
      refine z_astore C dL_take_15 17 rfl rfl [(5, .ref (q7)), (0, .ref (x0)), (1, .int (x1)), (2, .int (x2)), (3, .int (x3)), (4, .ref (x4))] rfl ?_
      refine z_iconst C dL_take_17 18 rfl 1 (by decide) ?_
      exact e_iret C (hE _ (Option.some.inj hf).symm) ⟨Nat.le_of_ble_eq_true rfl, Nat.le_of_ble_eq_true rfl⟩ dL_take_18
    · have hf := (if_neg hc0).symm.trans hf
      cases hf
theorem dL_tell_0 : decode cL_tell 0 = .ok (.aload_n 3, 1) := by decide +kernel
theorem dL_tell_1 : decode cL_tell 1 = .ok (.iconst 0, 1) := by decide +kernel
theorem dL_tell_2 : decode cL_tell 2 = .ok (.aload_n 0, 1) := by decide +kernel
theorem dL_tell_3 : decode cL_tell 3 = .ok (.iload_n 1, 1) := by decide +kernel
theorem dL_tell_4 : decode cL_tell 4 = .ok (.iload_n 2, 1) := by decide +kernel
theorem dL_tell_5 : decode cL_tell 5 = .ok (.invokevirtual 28, 3) := by decide +kernel
theorem dL_tell_8 : decode cL_tell 8 = .ok (.i2l, 1) := by decide +kernel
theorem dL_tell_9 : decode cL_tell 9 = .ok (.lastore, 1) := by decide +kernel
theorem dL_tell_10 : decode cL_tell 10 = .ok (.goto 7, 3) := by decide +kernel
theorem dL_tell_13 : decode cL_tell 13 = .ok (.astore 4, 2) := by decide +kernel
theorem dL_tell_15 : decode cL_tell 15 = .ok (.iconst 1, 1) := by decide +kernel
theorem dL_tell_16 : decode cL_tell 16 = .ok (.ireturn, 1) := by decide +kernel
theorem dL_tell_17 : decode cL_tell 17 = .ok (.iconst 0, 1) := by decide +kernel
theorem dL_tell_18 : decode cL_tell 18 = .ok (.ireturn, 1) := by decide +kernel
abbrev rmL_tell : Room := { frames := 9, cells := 1, slots := 6, locals := 165 }
noncomputable def fL_tell (σ : St) (x0 : Nat) (x1 : Int32) (x2 : Int32) (x3 : Nat) : Option (Int32 × St) :=
(isO σ x0 10).bind fun _ =>
(fX11_tell σ x0 x1 x2).bind fun w5 =>
(match w5 with
| (Sum.inl x5r, σ5) =>
(sL σ5 x3 0 x5r.toInt64).bind fun σ9 =>
some (0, σ9)
| (Sum.inr E5, σ5) =>
if E5 = xIAE then
(some (1, σ5))
else
(none))
set_option maxHeartbeats 4000000 in
set_option maxRecDepth 100000 in
theorem cL_tellc {l : Launch} (hst : l.stackTraces = false) {adK adV : Nat → Nat} {G : xG} {A : Nat → Prop} {σ : St} {x0 : Nat} {x1 : Int32} {x2 : Int32} {x3 : Nat} {c : Int32 × St} (hf : fL_tell σ x0 x1 x2 x3 = some c) : ConE l yL_tell (xwsW yL_tell cL_tell 5 (some .int) [(0, 10, 13, 13)]) rmL_tell 1 6 [.ref (x0), .int (x1), .int (x2), .ref (x3)] adK adV G A σ (some (.int c.1)) c.2 := by
  refine e_start hst rfl (Nat.le_of_ble_eq_true rfl) (fun X _ _ _ C O hE0 => ?_)
  have hE : ∀ r, c = r → eE X 1 6 (some (.int r.1)) r.2 := fun r e => e ▸ hE0
  show Vz X (0, 0) σ 0 [(0, .ref (x0)), (1, .int (x1)), (2, .int (x2)), (3, .ref (x3))] []
  unfold fL_tell at hf
  refine z_aload_n C dL_tell_0 1 rfl 3 rfl rfl ?_
  refine z_iconst C dL_tell_1 2 rfl 0 (by decide) ?_
  refine z_aload_n C dL_tell_2 3 rfl 0 rfl rfl ?_
  refine z_iload_n C dL_tell_3 4 rfl 1 rfl rfl ?_
  refine z_iload_n C dL_tell_4 5 rfl 2 rfl rfl ?_
  obtain ⟨o5, ho5, hf⟩ := x_bind hf
  obtain ⟨⟨r5, σ5⟩, hw5, hf⟩ := x_bind hf
  cases r5 with
  | inl x5r =>
    dsimp only at hf
    refine z_cVn C O.2.2 dL_tell_5 8 rfl ho5 cl10.1 rfl (cX11_tellc O.1 hw5) kX11_tell kvX11_tell w1092 ⟨rfl, rfl⟩ ⟨Nat.le_of_ble_eq_true rfl, Nat.le_of_ble_eq_true rfl⟩ ⟨Nat.le_of_ble_eq_true rfl, Nat.le_of_ble_eq_true rfl⟩ rfl rfl (Nat.le_of_ble_eq_true rfl) (1, 6) rfl ?_
    refine z_i2l C dL_tell_8 9 rfl ?_
    obtain ⟨σ9, hσ9, hf⟩ := x_bind hf
    refine z_lastore C dL_tell_9 10 rfl hσ9 ?_
    refine z_goto C dL_tell_10 17 (by decide) ?_
    refine z_iconst C dL_tell_17 18 rfl 0 (by decide) ?_
    exact e_iret C (hE _ (Option.some.inj hf).symm) ⟨Nat.le_of_ble_eq_true rfl, Nat.le_of_ble_eq_true rfl⟩ dL_tell_18
  | inr E5 =>
    dsimp only at hf
    by_cases hc0 : E5 = xIAE
    · subst hc0
      have hf := (if_pos rfl).symm.trans hf
      refine e_cVc C O.2.2 dL_tell_5 ho5 cl10.1 rfl (cX11_tellc O.1 hw5) kX11_tell kvX11_tell w1092 ⟨rfl, rfl⟩ ⟨Nat.le_of_ble_eq_true rfl, Nat.le_of_ble_eq_true rfl⟩ ⟨Nat.le_of_ble_eq_true rfl, Nat.le_of_ble_eq_true rfl⟩ rfl rfl (Nat.le_of_ble_eq_true rfl) [] ⟨0, 10, 13, 13⟩ [] O.2.1 (fun z hz => nomatch hz) (by decide) (by decide) w758 castIAE 13 rfl (1, 6) rfl (fun q5 => ?_)
      refine z_astore C dL_tell_13 15 rfl rfl [(4, .ref (q5)), (0, .ref (x0)), (1, .int (x1)), (2, .int (x2)), (3, .ref (x3))] rfl ?_
      refine z_iconst C dL_tell_15 16 rfl 1 (by decide) ?_
      exact e_iret C (hE _ (Option.some.inj hf).symm) ⟨Nat.le_of_ble_eq_true rfl, Nat.le_of_ble_eq_true rfl⟩ dL_tell_16
    · have hf := (if_neg hc0).symm.trans hf
      cases hf
theorem dL_word_0 : decode cL_word 0 = .ok (.aload_n 3, 1) := by decide +kernel
theorem dL_word_1 : decode cL_word 1 = .ok (.iconst 0, 1) := by decide +kernel
theorem dL_word_2 : decode cL_word 2 = .ok (.aload_n 0, 1) := by decide +kernel
theorem dL_word_3 : decode cL_word 3 = .ok (.iload_n 1, 1) := by decide +kernel
theorem dL_word_4 : decode cL_word 4 = .ok (.iload_n 2, 1) := by decide +kernel
theorem dL_word_5 : decode cL_word 5 = .ok (.invokevirtual 31, 3) := by decide +kernel
theorem dL_word_8 : decode cL_word 8 = .ok (.i2l, 1) := by decide +kernel
theorem dL_word_9 : decode cL_word 9 = .ok (.lastore, 1) := by decide +kernel
theorem dL_word_10 : decode cL_word 10 = .ok (.goto 7, 3) := by decide +kernel
theorem dL_word_13 : decode cL_word 13 = .ok (.astore 4, 2) := by decide +kernel
theorem dL_word_15 : decode cL_word 15 = .ok (.iconst 1, 1) := by decide +kernel
theorem dL_word_16 : decode cL_word 16 = .ok (.ireturn, 1) := by decide +kernel
theorem dL_word_17 : decode cL_word 17 = .ok (.iconst 0, 1) := by decide +kernel
theorem dL_word_18 : decode cL_word 18 = .ok (.ireturn, 1) := by decide +kernel
abbrev rmL_word : Room := { frames := 9, cells := 2, slots := 12, locals := 165 }
noncomputable def fL_word (σ : St) (x0 : Nat) (x1 : Int32) (x2 : Int32) (x3 : Nat) : Option (Int32 × St) :=
(isO σ x0 10).bind fun _ =>
(fX11_word σ x0 x1 x2).bind fun w5 =>
(match w5 with
| (Sum.inl x5r, σ5) =>
(sL σ5 x3 0 x5r.toInt64).bind fun σ9 =>
some (0, σ9)
| (Sum.inr E5, σ5) =>
if E5 = xNSE then
(some (1, σ5))
else
(none))
set_option maxHeartbeats 4000000 in
set_option maxRecDepth 100000 in
theorem cL_wordc {l : Launch} (hst : l.stackTraces = false) {adK adV : Nat → Nat} {G : xG} {A : Nat → Prop} {σ : St} {x0 : Nat} {x1 : Int32} {x2 : Int32} {x3 : Nat} {c : Int32 × St} (hf : fL_word σ x0 x1 x2 x3 = some c) : ConE l yL_word (xwsW yL_word cL_word 5 (some .int) [(0, 10, 13, 18)]) rmL_word 2 12 [.ref (x0), .int (x1), .int (x2), .ref (x3)] adK adV G A σ (some (.int c.1)) c.2 := by
  refine e_start hst rfl (Nat.le_of_ble_eq_true rfl) (fun X _ _ _ C O hE0 => ?_)
  have hE : ∀ r, c = r → eE X 2 12 (some (.int r.1)) r.2 := fun r e => e ▸ hE0
  show Vz X (0, 0) σ 0 [(0, .ref (x0)), (1, .int (x1)), (2, .int (x2)), (3, .ref (x3))] []
  unfold fL_word at hf
  refine z_aload_n C dL_word_0 1 rfl 3 rfl rfl ?_
  refine z_iconst C dL_word_1 2 rfl 0 (by decide) ?_
  refine z_aload_n C dL_word_2 3 rfl 0 rfl rfl ?_
  refine z_iload_n C dL_word_3 4 rfl 1 rfl rfl ?_
  refine z_iload_n C dL_word_4 5 rfl 2 rfl rfl ?_
  obtain ⟨o5, ho5, hf⟩ := x_bind hf
  obtain ⟨⟨r5, σ5⟩, hw5, hf⟩ := x_bind hf
  cases r5 with
  | inl x5r =>
    dsimp only at hf
    refine z_cVn C O.2.2 dL_word_5 8 rfl ho5 cl10.1 rfl (cX11_wordc O.1 hw5) kX11_word kvX11_word w1107 ⟨rfl, rfl⟩ ⟨Nat.le_of_ble_eq_true rfl, Nat.le_of_ble_eq_true rfl⟩ ⟨Nat.le_of_ble_eq_true rfl, Nat.le_of_ble_eq_true rfl⟩ rfl rfl (Nat.le_of_ble_eq_true rfl) (2, 12) rfl ?_
    refine z_i2l C dL_word_8 9 rfl ?_
    obtain ⟨σ9, hσ9, hf⟩ := x_bind hf
    refine z_lastore C dL_word_9 10 rfl hσ9 ?_
    refine z_goto C dL_word_10 17 (by decide) ?_
    refine z_iconst C dL_word_17 18 rfl 0 (by decide) ?_
    exact e_iret C (hE _ (Option.some.inj hf).symm) ⟨Nat.le_of_ble_eq_true rfl, Nat.le_of_ble_eq_true rfl⟩ dL_word_18
  | inr E5 =>
    dsimp only at hf
    by_cases hc0 : E5 = xNSE
    · subst hc0
      have hf := (if_pos rfl).symm.trans hf
      refine e_cVc C O.2.2 dL_word_5 ho5 cl10.1 rfl (cX11_wordc O.1 hw5) kX11_word kvX11_word w1107 ⟨rfl, rfl⟩ ⟨Nat.le_of_ble_eq_true rfl, Nat.le_of_ble_eq_true rfl⟩ ⟨Nat.le_of_ble_eq_true rfl, Nat.le_of_ble_eq_true rfl⟩ rfl rfl (Nat.le_of_ble_eq_true rfl) [] ⟨0, 10, 13, 18⟩ [] O.2.1 (fun z hz => nomatch hz) (by decide) (by decide) w972 castNSE 13 rfl (2, 12) rfl (fun q5 => ?_)
      refine z_astore C dL_word_13 15 rfl rfl [(4, .ref (q5)), (0, .ref (x0)), (1, .int (x1)), (2, .int (x2)), (3, .ref (x3))] rfl ?_
      refine z_iconst C dL_word_15 16 rfl 1 (by decide) ?_
      exact e_iret C (hE _ (Option.some.inj hf).symm) ⟨Nat.le_of_ble_eq_true rfl, Nat.le_of_ble_eq_true rfl⟩ dL_word_16
    · have hf := (if_neg hc0).symm.trans hf
      cases hf
