/-! constructors -/
theorem dX8_init_0 : decode cX8_init 0 = .ok (.aload_n 0, 1) := by decide +kernel
theorem dX8_init_1 : decode cX8_init 1 = .ok (.invokespecial 3, 3) := by decide +kernel
theorem dX8_init_4 : decode cX8_init 4 = .ok (.aload_n 0, 1) := by decide +kernel
theorem dX8_init_5 : decode cX8_init 5 = .ok (.iconst 2, 1) := by decide +kernel
theorem dX8_init_6 : decode cX8_init 6 = .ok (.putfield 9, 3) := by decide +kernel
theorem dX8_init_9 : decode cX8_init 9 = .ok (.aload_n 0, 1) := by decide +kernel
theorem dX8_init_10 : decode cX8_init 10 = .ok (.iconst 0, 1) := by decide +kernel
theorem dX8_init_11 : decode cX8_init 11 = .ok (.putfield 15, 3) := by decide +kernel
theorem dX8_init_14 : decode cX8_init 14 = .ok (.aload_n 0, 1) := by decide +kernel
theorem dX8_init_15 : decode cX8_init 15 = .ok (.bipush 12, 2) := by decide +kernel
theorem dX8_init_17 : decode cX8_init 17 = .ok (.newarray .long, 2) := by decide +kernel
theorem dX8_init_19 : decode cX8_init 19 = .ok (.putfield 18, 3) := by decide +kernel
theorem dX8_init_22 : decode cX8_init 22 = .ok (.aload_n 0, 1) := by decide +kernel
theorem dX8_init_23 : decode cX8_init 23 = .ok (.bipush 12, 2) := by decide +kernel
theorem dX8_init_25 : decode cX8_init 25 = .ok (.newarray .long, 2) := by decide +kernel
theorem dX8_init_27 : decode cX8_init 27 = .ok (.putfield 22, 3) := by decide +kernel
theorem dX8_init_30 : decode cX8_init 30 = .ok (.aload_n 0, 1) := by decide +kernel
theorem dX8_init_31 : decode cX8_init 31 = .ok (.iconst 5, 1) := by decide +kernel
theorem dX8_init_32 : decode cX8_init 32 = .ok (.newarray .int, 2) := by decide +kernel
theorem dX8_init_34 : decode cX8_init 34 = .ok (.putfield 25, 3) := by decide +kernel
theorem dX8_init_37 : decode cX8_init 37 = .ok (.aload_n 0, 1) := by decide +kernel
theorem dX8_init_38 : decode cX8_init 38 = .ok (.iconst 5, 1) := by decide +kernel
theorem dX8_init_39 : decode cX8_init 39 = .ok (.newarray .int, 2) := by decide +kernel
theorem dX8_init_41 : decode cX8_init 41 = .ok (.putfield 29, 3) := by decide +kernel
theorem dX8_init_44 : decode cX8_init 44 = .ok (.aload_n 0, 1) := by decide +kernel
theorem dX8_init_45 : decode cX8_init 45 = .ok (.iconst 0, 1) := by decide +kernel
theorem dX8_init_46 : decode cX8_init 46 = .ok (.putfield 32, 3) := by decide +kernel
theorem dX8_init_49 : decode cX8_init 49 = .ok (.aload_n 0, 1) := by decide +kernel
theorem dX8_init_50 : decode cX8_init 50 = .ok (.iconst 5, 1) := by decide +kernel
theorem dX8_init_51 : decode cX8_init 51 = .ok (.newarray .int, 2) := by decide +kernel
theorem dX8_init_53 : decode cX8_init 53 = .ok (.putfield 35, 3) := by decide +kernel
theorem dX8_init_56 : decode cX8_init 56 = .ok (.aload_n 0, 1) := by decide +kernel
theorem dX8_init_57 : decode cX8_init 57 = .ok (.iconst 0, 1) := by decide +kernel
theorem dX8_init_58 : decode cX8_init 58 = .ok (.putfield 38, 3) := by decide +kernel
theorem dX8_init_61 : decode cX8_init 61 = .ok (.aload_n 0, 1) := by decide +kernel
theorem dX8_init_62 : decode cX8_init 62 = .ok (.iconst 2, 1) := by decide +kernel
theorem dX8_init_63 : decode cX8_init 63 = .ok (.invokevirtual 41, 3) := by decide +kernel
theorem dX8_init_66 : decode cX8_init 66 = .ok (.return_, 1) := by decide +kernel
abbrev rmX8_init : Room := { frames := 1, cells := 5, slots := 39, locals := 40 }
noncomputable def fX8_init (σ : St) (h : Nat) (x0 : Nat) : Option St :=
(wrF σ x0 8 0 (.int (2))).bind fun σ6_5 =>
(wrF σ6_5 x0 8 1 (.int (0))).bind fun σ11_8 =>
xlet (xu σ11_8 (h + 0) (.inl (1, 12, .inr (.inl (fun _ => 0))))) fun σ17_11 =>
(wrF σ17_11 x0 8 2 (.ref (h + 0))).bind fun σ19_12 =>
xlet (xu σ19_12 (h + 1) (.inl (1, 12, .inr (.inl (fun _ => 0))))) fun σ25_15 =>
(wrF σ25_15 x0 8 3 (.ref (h + 1))).bind fun σ27_16 =>
xlet (xu σ27_16 (h + 2) (.inl (0, 5, .inl (fun _ => 0)))) fun σ32_19 =>
(wrF σ32_19 x0 8 4 (.ref (h + 2))).bind fun σ34_20 =>
xlet (xu σ34_20 (h + 3) (.inl (0, 5, .inl (fun _ => 0)))) fun σ39_23 =>
(wrF σ39_23 x0 8 5 (.ref (h + 3))).bind fun σ41_24 =>
(wrF σ41_24 x0 8 6 (.int (0))).bind fun σ46_27 =>
xlet (xu σ46_27 (h + 4) (.inl (0, 5, .inl (fun _ => 0)))) fun σ51_30 =>
(wrF σ51_30 x0 8 7 (.ref (h + 4))).bind fun σ53_31 =>
(wrF σ53_31 x0 8 8 (.int (0))).bind fun σ58_34 =>
(isO σ58_34 x0 8).bind fun _ =>
(fX8_startAnew σ58_34 x0 2).bind fun w63_37 =>
some w63_37
set_option maxHeartbeats 4000000 in
set_option maxRecDepth 100000 in
theorem cX8_initc {l : Launch} {G : xG} {A : Nat → Prop} {σ : St} {h : Nat} {x0 : Nat} {c : St} (hf : fX8_init σ h x0 = some c) : ConA l yX8_init (xws yX8_init cX8_init 1 none) rmX8_init 5 39 [.ref (x0)] G A σ h c := by
  refine a_start rfl rfl (Nat.le_of_ble_eq_true rfl) (fun X _ _ _ C O hE0 => ?_)
  have hE : ∀ r, c = r → aE X 5 39 (h + 5) r := fun r e => e ▸ hE0
  show V X (0, 0) σ 0 [(0, .ref (x0))] []
  unfold fX8_init at hf
  refine x_aload_n C dX8_init_0 1 rfl 0 rfl rfl ?_
  refine a_obj C dX8_init_1 4 rfl w173 objw ⟨Nat.le_of_ble_eq_true rfl, Nat.le_of_ble_eq_true rfl⟩ ?_
  refine x_aload_n C dX8_init_4 5 rfl 0 rfl rfl ?_
  refine x_iconst C dX8_init_5 6 rfl 2 (by decide) ?_
  obtain ⟨σ6_5, hσ6_5, hf⟩ := x_bind hf
  refine x_putX C dX8_init_6 9 rfl hσ6_5 cl8 rfl w178 rfl rfl rfl ?_
  refine x_aload_n C dX8_init_9 10 rfl 0 rfl rfl ?_
  refine x_iconst C dX8_init_10 11 rfl 0 (by decide) ?_
  obtain ⟨σ11_8, hσ11_8, hf⟩ := x_bind hf
  refine x_putX C dX8_init_11 14 rfl hσ11_8 cl8 rfl w182 rfl rfl rfl ?_
  refine x_aload_n C dX8_init_14 15 rfl 0 rfl rfl ?_
  refine x_bipush C dX8_init_15 17 rfl 12 (by decide) ?_
  obtain ⟨σ17_11, eσ17_11, hf⟩ := xlet_some hf
  refine a_newL C O dX8_init_17 19 rfl w233 (by decide) (N := 12) (by decide) (Nat.le_of_ble_eq_true rfl) (h + 0) rfl ⟨Nat.le_of_ble_eq_true rfl, Nat.le_of_ble_eq_true rfl⟩ eσ17_11 (1, 12) rfl ?_
  obtain ⟨σ19_12, hσ19_12, hf⟩ := x_bind hf
  refine a_putF C O dX8_init_19 22 rfl hσ19_12 cl8 rfl w189 rfl rfl rfl rfl ?_
  refine x_aload_n C dX8_init_22 23 rfl 0 rfl rfl ?_
  refine x_bipush C dX8_init_23 25 rfl 12 (by decide) ?_
  obtain ⟨σ25_15, eσ25_15, hf⟩ := xlet_some hf
  refine a_newL C O dX8_init_25 27 rfl w233 (by decide) (N := 12) (by decide) (Nat.le_of_ble_eq_true rfl) (h + 1) rfl ⟨Nat.le_of_ble_eq_true rfl, Nat.le_of_ble_eq_true rfl⟩ eσ25_15 (2, 24) rfl ?_
  obtain ⟨σ27_16, hσ27_16, hf⟩ := x_bind hf
  refine a_putF C O dX8_init_27 30 rfl hσ27_16 cl8 rfl w196 rfl rfl rfl rfl ?_
  refine x_aload_n C dX8_init_30 31 rfl 0 rfl rfl ?_
  refine x_iconst C dX8_init_31 32 rfl 5 (by decide) ?_
  obtain ⟨σ32_19, eσ32_19, hf⟩ := xlet_some hf
  refine a_newI C O dX8_init_32 34 rfl w232 (by decide) (N := 5) (by decide) (Nat.le_of_ble_eq_true rfl) (h + 2) rfl ⟨Nat.le_of_ble_eq_true rfl, Nat.le_of_ble_eq_true rfl⟩ eσ32_19 (3, 29) rfl ?_
  obtain ⟨σ34_20, hσ34_20, hf⟩ := x_bind hf
  refine a_putF C O dX8_init_34 37 rfl hσ34_20 cl8 rfl w202 rfl rfl rfl rfl ?_
  refine x_aload_n C dX8_init_37 38 rfl 0 rfl rfl ?_
  refine x_iconst C dX8_init_38 39 rfl 5 (by decide) ?_
  obtain ⟨σ39_23, eσ39_23, hf⟩ := xlet_some hf
  refine a_newI C O dX8_init_39 41 rfl w232 (by decide) (N := 5) (by decide) (Nat.le_of_ble_eq_true rfl) (h + 3) rfl ⟨Nat.le_of_ble_eq_true rfl, Nat.le_of_ble_eq_true rfl⟩ eσ39_23 (4, 34) rfl ?_
  obtain ⟨σ41_24, hσ41_24, hf⟩ := x_bind hf
  refine a_putF C O dX8_init_41 44 rfl hσ41_24 cl8 rfl w205 rfl rfl rfl rfl ?_
  refine x_aload_n C dX8_init_44 45 rfl 0 rfl rfl ?_
  refine x_iconst C dX8_init_45 46 rfl 0 (by decide) ?_
  obtain ⟨σ46_27, hσ46_27, hf⟩ := x_bind hf
  refine x_putX C dX8_init_46 49 rfl hσ46_27 cl8 rfl w208 rfl rfl rfl ?_
  refine x_aload_n C dX8_init_49 50 rfl 0 rfl rfl ?_
  refine x_iconst C dX8_init_50 51 rfl 5 (by decide) ?_
  obtain ⟨σ51_30, eσ51_30, hf⟩ := xlet_some hf
  refine a_newI C O dX8_init_51 53 rfl w232 (by decide) (N := 5) (by decide) (Nat.le_of_ble_eq_true rfl) (h + 4) rfl ⟨Nat.le_of_ble_eq_true rfl, Nat.le_of_ble_eq_true rfl⟩ eσ51_30 (5, 39) rfl ?_
  obtain ⟨σ53_31, hσ53_31, hf⟩ := x_bind hf
  refine a_putF C O dX8_init_53 56 rfl hσ53_31 cl8 rfl w211 rfl rfl rfl rfl ?_
  refine x_aload_n C dX8_init_56 57 rfl 0 rfl rfl ?_
  refine x_iconst C dX8_init_57 58 rfl 0 (by decide) ?_
  obtain ⟨σ58_34, hσ58_34, hf⟩ := x_bind hf
  refine x_putX C dX8_init_58 61 rfl hσ58_34 cl8 rfl w212 rfl rfl rfl ?_
  refine x_aload_n C dX8_init_61 62 rfl 0 rfl rfl ?_
  refine x_iconst C dX8_init_62 63 rfl 2 (by decide) ?_
  obtain ⟨o63_37, ho63_37, hf⟩ := x_bind hf
  obtain ⟨w63_37, hw63_37, hf⟩ := x_bind hf
  refine x_callVv C dX8_init_63 66 rfl ho63_37 cl8.1 rfl (cX8_startAnewc hw63_37) kX8_startAnew kvX8_startAnew w174 ⟨rfl, rfl⟩ ⟨Nat.le_of_ble_eq_true rfl, Nat.le_of_ble_eq_true rfl⟩ ⟨Nat.le_of_ble_eq_true rfl, Nat.le_of_ble_eq_true rfl⟩ rfl rfl (Nat.le_of_ble_eq_true rfl) ?_
  exact a_vret C O (hE _ (Option.some.inj hf).symm) rfl dX8_init_66
theorem dX2_init_0 : decode cX2_init 0 = .ok (.aload_n 0, 1) := by decide +kernel
theorem dX2_init_1 : decode cX2_init 1 = .ok (.invokespecial 3, 3) := by decide +kernel
theorem dX2_init_4 : decode cX2_init 4 = .ok (.aload_n 0, 1) := by decide +kernel
theorem dX2_init_5 : decode cX2_init 5 = .ok (.new 9, 3) := by decide +kernel
theorem dX2_init_8 : decode cX2_init 8 = .ok (.dup, 1) := by decide +kernel
theorem dX2_init_9 : decode cX2_init 9 = .ok (.invokespecial 11, 3) := by decide +kernel
theorem dX2_init_12 : decode cX2_init 12 = .ok (.putfield 12, 3) := by decide +kernel
theorem dX2_init_15 : decode cX2_init 15 = .ok (.aload_n 0, 1) := by decide +kernel
theorem dX2_init_16 : decode cX2_init 16 = .ok (.bipush 6, 2) := by decide +kernel
theorem dX2_init_18 : decode cX2_init 18 = .ok (.newarray .long, 2) := by decide +kernel
theorem dX2_init_20 : decode cX2_init 20 = .ok (.putfield 18, 3) := by decide +kernel
theorem dX2_init_23 : decode cX2_init 23 = .ok (.aload_n 0, 1) := by decide +kernel
theorem dX2_init_24 : decode cX2_init 24 = .ok (.bipush 6, 2) := by decide +kernel
theorem dX2_init_26 : decode cX2_init 26 = .ok (.newarray .long, 2) := by decide +kernel
theorem dX2_init_28 : decode cX2_init 28 = .ok (.putfield 22, 3) := by decide +kernel
theorem dX2_init_31 : decode cX2_init 31 = .ok (.aload_n 0, 1) := by decide +kernel
theorem dX2_init_32 : decode cX2_init 32 = .ok (.bipush 6, 2) := by decide +kernel
theorem dX2_init_34 : decode cX2_init 34 = .ok (.newarray .int, 2) := by decide +kernel
theorem dX2_init_36 : decode cX2_init 36 = .ok (.putfield 25, 3) := by decide +kernel
theorem dX2_init_39 : decode cX2_init 39 = .ok (.aload_n 0, 1) := by decide +kernel
theorem dX2_init_40 : decode cX2_init 40 = .ok (.sipush 240, 3) := by decide +kernel
theorem dX2_init_43 : decode cX2_init 43 = .ok (.newarray .int, 2) := by decide +kernel
theorem dX2_init_45 : decode cX2_init 45 = .ok (.putfield 29, 3) := by decide +kernel
theorem dX2_init_48 : decode cX2_init 48 = .ok (.return_, 1) := by decide +kernel
abbrev rmX2_init : Room := { frames := 2, cells := 10, slots := 306, locals := 60 }
noncomputable def fX2_init (σ : St) (h : Nat) (x0 : Nat) : Option St :=
xlet (xu σ (h + 0) (.inr (8, [.int 0, .int 0, .null, .null, .null, .null, .int 0, .null, .int 0]))) fun σ5_4 =>
(fX8_init σ5_4 (h + 1) (h + 0)).bind fun σ9_6 =>
(wrF σ9_6 x0 2 0 (.ref (h + 0))).bind fun σ12_7 =>
xlet (xu σ12_7 (h + 6) (.inl (1, 6, .inr (.inl (fun _ => 0))))) fun σ18_10 =>
(wrF σ18_10 x0 2 1 (.ref (h + 6))).bind fun σ20_11 =>
xlet (xu σ20_11 (h + 7) (.inl (1, 6, .inr (.inl (fun _ => 0))))) fun σ26_14 =>
(wrF σ26_14 x0 2 2 (.ref (h + 7))).bind fun σ28_15 =>
xlet (xu σ28_15 (h + 8) (.inl (0, 6, .inl (fun _ => 0)))) fun σ34_18 =>
(wrF σ34_18 x0 2 3 (.ref (h + 8))).bind fun σ36_19 =>
xlet (xu σ36_19 (h + 9) (.inl (0, 240, .inl (fun _ => 0)))) fun σ43_22 =>
(wrF σ43_22 x0 2 4 (.ref (h + 9))).bind fun σ45_23 =>
some σ45_23
set_option maxHeartbeats 4000000 in
set_option maxRecDepth 100000 in
theorem cX2_initc {l : Launch} {G : xG} {A : Nat → Prop} {σ : St} {h : Nat} {x0 : Nat} {c : St} (hf : fX2_init σ h x0 = some c) : ConA l yX2_init (xws yX2_init cX2_init 1 none) rmX2_init 10 306 [.ref (x0)] G A σ h c := by
  refine a_start rfl rfl (Nat.le_of_ble_eq_true rfl) (fun X _ _ _ C O hE0 => ?_)
  have hE : ∀ r, c = r → aE X 10 306 (h + 10) r := fun r e => e ▸ hE0
  show V X (0, 0) σ 0 [(0, .ref (x0))] []
  unfold fX2_init at hf
  refine x_aload_n C dX2_init_0 1 rfl 0 rfl rfl ?_
  refine a_obj C dX2_init_1 4 rfl w167 objw ⟨Nat.le_of_ble_eq_true rfl, Nat.le_of_ble_eq_true rfl⟩ ?_
  refine x_aload_n C dX2_init_4 5 rfl 0 rfl rfl ?_
  obtain ⟨σ5_4, eσ5_4, hf⟩ := xlet_some hf
  refine a_new C O dX2_init_5 8 rfl cl8 w168 w169 w130 [.int 0, .int 0, .null, .null, .null, .null, .int 0, .null, .int 0] df8 (h + 0) rfl ⟨Nat.le_of_ble_eq_true rfl, Nat.le_of_ble_eq_true rfl⟩ eσ5_4 (1, 9) rfl ?_
  refine x_dup C dX2_init_8 9 rfl rfl ?_
  obtain ⟨σ9_6, hσ9_6, hf⟩ := x_bind hf
  refine a_init C O dX2_init_9 12 rfl rfl (cX8_initc hσ9_6) kX8_init kiX8_init w170 ⟨rfl, rfl⟩ ⟨Nat.le_of_ble_eq_true rfl, Nat.le_of_ble_eq_true rfl⟩ ⟨Nat.le_of_ble_eq_true rfl, Nat.le_of_ble_eq_true rfl⟩ rfl rfl (Nat.le_of_ble_eq_true rfl) (6, 48) rfl ?_
  obtain ⟨σ12_7, hσ12_7, hf⟩ := x_bind hf
  refine a_putF C O dX2_init_12 15 rfl hσ12_7 cl2 rfl w234 rfl rfl rfl rfl ?_
  refine x_aload_n C dX2_init_15 16 rfl 0 rfl rfl ?_
  refine x_bipush C dX2_init_16 18 rfl 6 (by decide) ?_
  obtain ⟨σ18_10, eσ18_10, hf⟩ := xlet_some hf
  refine a_newL C O dX2_init_18 20 rfl w233 (by decide) (N := 6) (by decide) (Nat.le_of_ble_eq_true rfl) (h + 6) rfl ⟨Nat.le_of_ble_eq_true rfl, Nat.le_of_ble_eq_true rfl⟩ eσ18_10 (7, 54) rfl ?_
  obtain ⟨σ20_11, hσ20_11, hf⟩ := x_bind hf
  refine a_putF C O dX2_init_20 23 rfl hσ20_11 cl2 rfl w237 rfl rfl rfl rfl ?_
  refine x_aload_n C dX2_init_23 24 rfl 0 rfl rfl ?_
  refine x_bipush C dX2_init_24 26 rfl 6 (by decide) ?_
  obtain ⟨σ26_14, eσ26_14, hf⟩ := xlet_some hf
  refine a_newL C O dX2_init_26 28 rfl w233 (by decide) (N := 6) (by decide) (Nat.le_of_ble_eq_true rfl) (h + 7) rfl ⟨Nat.le_of_ble_eq_true rfl, Nat.le_of_ble_eq_true rfl⟩ eσ26_14 (8, 60) rfl ?_
  obtain ⟨σ28_15, hσ28_15, hf⟩ := x_bind hf
  refine a_putF C O dX2_init_28 31 rfl hσ28_15 cl2 rfl w240 rfl rfl rfl rfl ?_
  refine x_aload_n C dX2_init_31 32 rfl 0 rfl rfl ?_
  refine x_bipush C dX2_init_32 34 rfl 6 (by decide) ?_
  obtain ⟨σ34_18, eσ34_18, hf⟩ := xlet_some hf
  refine a_newI C O dX2_init_34 36 rfl w232 (by decide) (N := 6) (by decide) (Nat.le_of_ble_eq_true rfl) (h + 8) rfl ⟨Nat.le_of_ble_eq_true rfl, Nat.le_of_ble_eq_true rfl⟩ eσ34_18 (9, 66) rfl ?_
  obtain ⟨σ36_19, hσ36_19, hf⟩ := x_bind hf
  refine a_putF C O dX2_init_36 39 rfl hσ36_19 cl2 rfl w242 rfl rfl rfl rfl ?_
  refine x_aload_n C dX2_init_39 40 rfl 0 rfl rfl ?_
  refine x_sipush C dX2_init_40 43 rfl 240 (by decide) ?_
  obtain ⟨σ43_22, eσ43_22, hf⟩ := xlet_some hf
  refine a_newI C O dX2_init_43 45 rfl w232 (by decide) (N := 240) (by decide) (Nat.le_of_ble_eq_true rfl) (h + 9) rfl ⟨Nat.le_of_ble_eq_true rfl, Nat.le_of_ble_eq_true rfl⟩ eσ43_22 (10, 306) rfl ?_
  obtain ⟨σ45_23, hσ45_23, hf⟩ := x_bind hf
  refine a_putF C O dX2_init_45 48 rfl hσ45_23 cl2 rfl w245 rfl rfl rfl rfl ?_
  exact a_vret C O (hE _ (Option.some.inj hf).symm) rfl dX2_init_48
theorem dX0_init_0 : decode cX0_init 0 = .ok (.aload_n 0, 1) := by decide +kernel
theorem dX0_init_1 : decode cX0_init 1 = .ok (.invokespecial 3, 3) := by decide +kernel
theorem dX0_init_4 : decode cX0_init 4 = .ok (.aload_n 0, 1) := by decide +kernel
theorem dX0_init_5 : decode cX0_init 5 = .ok (.bipush 20, 2) := by decide +kernel
theorem dX0_init_7 : decode cX0_init 7 = .ok (.anewarray 9, 3) := by decide +kernel
theorem dX0_init_10 : decode cX0_init 10 = .ok (.putfield 11, 3) := by decide +kernel
theorem dX0_init_13 : decode cX0_init 13 = .ok (.aload_n 0, 1) := by decide +kernel
theorem dX0_init_14 : decode cX0_init 14 = .ok (.iconst 0, 1) := by decide +kernel
theorem dX0_init_15 : decode cX0_init 15 = .ok (.putfield 17, 3) := by decide +kernel
theorem dX0_init_18 : decode cX0_init 18 = .ok (.aload_n 0, 1) := by decide +kernel
theorem dX0_init_19 : decode cX0_init 19 = .ok (.iconst 0, 1) := by decide +kernel
theorem dX0_init_20 : decode cX0_init 20 = .ok (.putfield 21, 3) := by decide +kernel
theorem dX0_init_23 : decode cX0_init 23 = .ok (.iconst 0, 1) := by decide +kernel
theorem dX0_init_24 : decode cX0_init 24 = .ok (.istore_n 1, 1) := by decide +kernel
theorem dX0_init_25 : decode cX0_init 25 = .ok (.iload_n 1, 1) := by decide +kernel
theorem dX0_init_26 : decode cX0_init 26 = .ok (.bipush 20, 2) := by decide +kernel
theorem dX0_init_28 : decode cX0_init 28 = .ok (.if_icmp .ge 22, 3) := by decide +kernel
theorem dX0_init_31 : decode cX0_init 31 = .ok (.aload_n 0, 1) := by decide +kernel
theorem dX0_init_32 : decode cX0_init 32 = .ok (.getfield 11, 3) := by decide +kernel
theorem dX0_init_35 : decode cX0_init 35 = .ok (.iload_n 1, 1) := by decide +kernel
theorem dX0_init_36 : decode cX0_init 36 = .ok (.new 9, 3) := by decide +kernel
theorem dX0_init_39 : decode cX0_init 39 = .ok (.dup, 1) := by decide +kernel
theorem dX0_init_40 : decode cX0_init 40 = .ok (.invokespecial 24, 3) := by decide +kernel
theorem dX0_init_43 : decode cX0_init 43 = .ok (.aastore, 1) := by decide +kernel
theorem dX0_init_44 : decode cX0_init 44 = .ok (.iinc 1 1, 3) := by decide +kernel
theorem dX0_init_47 : decode cX0_init 47 = .ok (.goto (-22), 3) := by decide +kernel
theorem dX0_init_50 : decode cX0_init 50 = .ok (.return_, 1) := by decide +kernel
abbrev rmX0_init : Room := { frames := 3, cells := 221, slots := 6240, locals := 80 }
noncomputable def fX0_init (σ : St) (h : Nat) (x0 : Nat) : Option St :=
xlet (xu σ (h + 0) (.inl (3, 20, .inr (.inr (.inr (.inr (fun _ => none))))))) fun σ7_5 =>
(wrF σ7_5 x0 0 0 (.ref (h + 0))).bind fun σ10_6 =>
(wrF σ10_6 x0 0 1 (.int (0))).bind fun σ15_9 =>
(wrF σ15_9 x0 0 2 (.int (0))).bind fun σ20_12 =>
(gR σ20_12 x0 0 0).bind fun v32_19 =>
xlet (xu σ20_12 (h + 1) (.inr (2, [.null, .null, .null, .null, .null]))) fun σ36_21 =>
(fX2_init σ36_21 (h + 2) (h + 1)).bind fun σ40_23 =>
(isO σ40_23 (h + 1) 2).bind fun _ =>
(sR σ40_23 v32_19 0 (h + 1)).bind fun σ43_24 =>
(gR σ43_24 x0 0 0).bind fun v32_31 =>
xlet (xu σ43_24 (h + 12) (.inr (2, [.null, .null, .null, .null, .null]))) fun σ36_33 =>
(fX2_init σ36_33 (h + 13) (h + 12)).bind fun σ40_35 =>
(isO σ40_35 (h + 12) 2).bind fun _ =>
(sR σ40_35 v32_31 1 (h + 12)).bind fun σ43_36 =>
(gR σ43_36 x0 0 0).bind fun v32_43 =>
xlet (xu σ43_36 (h + 23) (.inr (2, [.null, .null, .null, .null, .null]))) fun σ36_45 =>
(fX2_init σ36_45 (h + 24) (h + 23)).bind fun σ40_47 =>
(isO σ40_47 (h + 23) 2).bind fun _ =>
(sR σ40_47 v32_43 2 (h + 23)).bind fun σ43_48 =>
(gR σ43_48 x0 0 0).bind fun v32_55 =>
xlet (xu σ43_48 (h + 34) (.inr (2, [.null, .null, .null, .null, .null]))) fun σ36_57 =>
(fX2_init σ36_57 (h + 35) (h + 34)).bind fun σ40_59 =>
(isO σ40_59 (h + 34) 2).bind fun _ =>
(sR σ40_59 v32_55 3 (h + 34)).bind fun σ43_60 =>
(gR σ43_60 x0 0 0).bind fun v32_67 =>
xlet (xu σ43_60 (h + 45) (.inr (2, [.null, .null, .null, .null, .null]))) fun σ36_69 =>
(fX2_init σ36_69 (h + 46) (h + 45)).bind fun σ40_71 =>
(isO σ40_71 (h + 45) 2).bind fun _ =>
(sR σ40_71 v32_67 4 (h + 45)).bind fun σ43_72 =>
(gR σ43_72 x0 0 0).bind fun v32_79 =>
xlet (xu σ43_72 (h + 56) (.inr (2, [.null, .null, .null, .null, .null]))) fun σ36_81 =>
(fX2_init σ36_81 (h + 57) (h + 56)).bind fun σ40_83 =>
(isO σ40_83 (h + 56) 2).bind fun _ =>
(sR σ40_83 v32_79 5 (h + 56)).bind fun σ43_84 =>
(gR σ43_84 x0 0 0).bind fun v32_91 =>
xlet (xu σ43_84 (h + 67) (.inr (2, [.null, .null, .null, .null, .null]))) fun σ36_93 =>
(fX2_init σ36_93 (h + 68) (h + 67)).bind fun σ40_95 =>
(isO σ40_95 (h + 67) 2).bind fun _ =>
(sR σ40_95 v32_91 6 (h + 67)).bind fun σ43_96 =>
(gR σ43_96 x0 0 0).bind fun v32_103 =>
xlet (xu σ43_96 (h + 78) (.inr (2, [.null, .null, .null, .null, .null]))) fun σ36_105 =>
(fX2_init σ36_105 (h + 79) (h + 78)).bind fun σ40_107 =>
(isO σ40_107 (h + 78) 2).bind fun _ =>
(sR σ40_107 v32_103 7 (h + 78)).bind fun σ43_108 =>
(gR σ43_108 x0 0 0).bind fun v32_115 =>
xlet (xu σ43_108 (h + 89) (.inr (2, [.null, .null, .null, .null, .null]))) fun σ36_117 =>
(fX2_init σ36_117 (h + 90) (h + 89)).bind fun σ40_119 =>
(isO σ40_119 (h + 89) 2).bind fun _ =>
(sR σ40_119 v32_115 8 (h + 89)).bind fun σ43_120 =>
(gR σ43_120 x0 0 0).bind fun v32_127 =>
xlet (xu σ43_120 (h + 100) (.inr (2, [.null, .null, .null, .null, .null]))) fun σ36_129 =>
(fX2_init σ36_129 (h + 101) (h + 100)).bind fun σ40_131 =>
(isO σ40_131 (h + 100) 2).bind fun _ =>
(sR σ40_131 v32_127 9 (h + 100)).bind fun σ43_132 =>
(gR σ43_132 x0 0 0).bind fun v32_139 =>
xlet (xu σ43_132 (h + 111) (.inr (2, [.null, .null, .null, .null, .null]))) fun σ36_141 =>
(fX2_init σ36_141 (h + 112) (h + 111)).bind fun σ40_143 =>
(isO σ40_143 (h + 111) 2).bind fun _ =>
(sR σ40_143 v32_139 10 (h + 111)).bind fun σ43_144 =>
(gR σ43_144 x0 0 0).bind fun v32_151 =>
xlet (xu σ43_144 (h + 122) (.inr (2, [.null, .null, .null, .null, .null]))) fun σ36_153 =>
(fX2_init σ36_153 (h + 123) (h + 122)).bind fun σ40_155 =>
(isO σ40_155 (h + 122) 2).bind fun _ =>
(sR σ40_155 v32_151 11 (h + 122)).bind fun σ43_156 =>
(gR σ43_156 x0 0 0).bind fun v32_163 =>
xlet (xu σ43_156 (h + 133) (.inr (2, [.null, .null, .null, .null, .null]))) fun σ36_165 =>
(fX2_init σ36_165 (h + 134) (h + 133)).bind fun σ40_167 =>
(isO σ40_167 (h + 133) 2).bind fun _ =>
(sR σ40_167 v32_163 12 (h + 133)).bind fun σ43_168 =>
(gR σ43_168 x0 0 0).bind fun v32_175 =>
xlet (xu σ43_168 (h + 144) (.inr (2, [.null, .null, .null, .null, .null]))) fun σ36_177 =>
(fX2_init σ36_177 (h + 145) (h + 144)).bind fun σ40_179 =>
(isO σ40_179 (h + 144) 2).bind fun _ =>
(sR σ40_179 v32_175 13 (h + 144)).bind fun σ43_180 =>
(gR σ43_180 x0 0 0).bind fun v32_187 =>
xlet (xu σ43_180 (h + 155) (.inr (2, [.null, .null, .null, .null, .null]))) fun σ36_189 =>
(fX2_init σ36_189 (h + 156) (h + 155)).bind fun σ40_191 =>
(isO σ40_191 (h + 155) 2).bind fun _ =>
(sR σ40_191 v32_187 14 (h + 155)).bind fun σ43_192 =>
(gR σ43_192 x0 0 0).bind fun v32_199 =>
xlet (xu σ43_192 (h + 166) (.inr (2, [.null, .null, .null, .null, .null]))) fun σ36_201 =>
(fX2_init σ36_201 (h + 167) (h + 166)).bind fun σ40_203 =>
(isO σ40_203 (h + 166) 2).bind fun _ =>
(sR σ40_203 v32_199 15 (h + 166)).bind fun σ43_204 =>
(gR σ43_204 x0 0 0).bind fun v32_211 =>
xlet (xu σ43_204 (h + 177) (.inr (2, [.null, .null, .null, .null, .null]))) fun σ36_213 =>
(fX2_init σ36_213 (h + 178) (h + 177)).bind fun σ40_215 =>
(isO σ40_215 (h + 177) 2).bind fun _ =>
(sR σ40_215 v32_211 16 (h + 177)).bind fun σ43_216 =>
(gR σ43_216 x0 0 0).bind fun v32_223 =>
xlet (xu σ43_216 (h + 188) (.inr (2, [.null, .null, .null, .null, .null]))) fun σ36_225 =>
(fX2_init σ36_225 (h + 189) (h + 188)).bind fun σ40_227 =>
(isO σ40_227 (h + 188) 2).bind fun _ =>
(sR σ40_227 v32_223 17 (h + 188)).bind fun σ43_228 =>
(gR σ43_228 x0 0 0).bind fun v32_235 =>
xlet (xu σ43_228 (h + 199) (.inr (2, [.null, .null, .null, .null, .null]))) fun σ36_237 =>
(fX2_init σ36_237 (h + 200) (h + 199)).bind fun σ40_239 =>
(isO σ40_239 (h + 199) 2).bind fun _ =>
(sR σ40_239 v32_235 18 (h + 199)).bind fun σ43_240 =>
(gR σ43_240 x0 0 0).bind fun v32_247 =>
xlet (xu σ43_240 (h + 210) (.inr (2, [.null, .null, .null, .null, .null]))) fun σ36_249 =>
(fX2_init σ36_249 (h + 211) (h + 210)).bind fun σ40_251 =>
(isO σ40_251 (h + 210) 2).bind fun _ =>
(sR σ40_251 v32_247 19 (h + 210)).bind fun σ43_252 =>
some σ43_252
set_option maxHeartbeats 4000000 in
set_option maxRecDepth 100000 in
theorem cX0_initc {l : Launch} {G : xG} {A : Nat → Prop} {σ : St} {h : Nat} {x0 : Nat} {c : St} (hf : fX0_init σ h x0 = some c) : ConA l yX0_init (xws yX0_init cX0_init 2 none) rmX0_init 221 6240 [.ref (x0)] G A σ h c := by
  refine a_start rfl rfl (Nat.le_of_ble_eq_true rfl) (fun X _ _ _ C O hE0 => ?_)
  have hE : ∀ r, c = r → aE X 221 6240 (h + 221) r := fun r e => e ▸ hE0
  show V X (0, 0) σ 0 [(0, .ref (x0))] []
  unfold fX0_init at hf
  refine x_aload_n C dX0_init_0 1 rfl 0 rfl rfl ?_
  refine a_obj C dX0_init_1 4 rfl w262 objw ⟨Nat.le_of_ble_eq_true rfl, Nat.le_of_ble_eq_true rfl⟩ ?_
  refine x_aload_n C dX0_init_4 5 rfl 0 rfl rfl ?_
  refine x_bipush C dX0_init_5 7 rfl 20 (by decide) ?_
  obtain ⟨σ7_5, eσ7_5, hf⟩ := xlet_some hf
  refine a_newR C O dX0_init_7 10 rfl w263 (by decide) (N := 20) (by decide) (Nat.le_of_ble_eq_true rfl) (h + 0) rfl ⟨Nat.le_of_ble_eq_true rfl, Nat.le_of_ble_eq_true rfl⟩ eσ7_5 (1, 20) rfl ?_
  obtain ⟨σ10_6, hσ10_6, hf⟩ := x_bind hf
  refine a_putF C O dX0_init_10 13 rfl hσ10_6 cl0 rfl w266 rfl rfl rfl rfl ?_
  refine x_aload_n C dX0_init_13 14 rfl 0 rfl rfl ?_
  refine x_iconst C dX0_init_14 15 rfl 0 (by decide) ?_
  obtain ⟨σ15_9, hσ15_9, hf⟩ := x_bind hf
  refine x_putX C dX0_init_15 18 rfl hσ15_9 cl0 rfl w267 rfl rfl rfl ?_
  refine x_aload_n C dX0_init_18 19 rfl 0 rfl rfl ?_
  refine x_iconst C dX0_init_19 20 rfl 0 (by decide) ?_
  obtain ⟨σ20_12, hσ20_12, hf⟩ := x_bind hf
  refine x_putX C dX0_init_20 23 rfl hσ20_12 cl0 rfl w268 rfl rfl rfl ?_
  refine x_iconst C dX0_init_23 24 rfl 0 (by decide) ?_
  refine x_istore_n C dX0_init_24 25 rfl rfl rfl [(1, .int (0)), (0, .ref (x0))] rfl ?_
  refine x_iload_n C dX0_init_25 26 rfl 0 rfl rfl ?_
  refine x_bipush C dX0_init_26 28 rfl 20 (by decide) ?_
  refine x_icmp_ge C dX0_init_28 50 (by decide) 31 rfl (fun hc => absurd hc (by decide)) (fun _ => ?_)
  refine x_aload_n C dX0_init_31 32 rfl 1 rfl rfl ?_
  obtain ⟨v32_19, hv32_19, hf⟩ := x_bind hf
  refine x_getR C dX0_init_32 35 rfl hv32_19 cl0 rfl w266 ?_
  refine x_iload_n C dX0_init_35 36 rfl 0 rfl rfl ?_
  obtain ⟨σ36_21, eσ36_21, hf⟩ := xlet_some hf
  refine a_new C O dX0_init_36 39 rfl cl2 w263 w163 w129 [.null, .null, .null, .null, .null] df2 (h + 1) rfl ⟨Nat.le_of_ble_eq_true rfl, Nat.le_of_ble_eq_true rfl⟩ eσ36_21 (2, 25) rfl ?_
  refine x_dup C dX0_init_39 40 rfl rfl ?_
  obtain ⟨σ40_23, hσ40_23, hf⟩ := x_bind hf
  refine a_initN C O dX0_init_40 43 rfl rfl (cX2_initc hσ40_23) kX2_init kiX2_init (List.mem_of_getElem? (i := 1) rfl) ⟨rfl, rfl⟩ ⟨Nat.le_of_ble_eq_true rfl, Nat.le_of_ble_eq_true rfl⟩ ⟨Nat.le_of_ble_eq_true rfl, Nat.le_of_ble_eq_true rfl⟩ rfl rfl (Nat.le_of_ble_eq_true rfl) (12, 331) rfl ?_
  obtain ⟨o43_24, ho43_24, hf⟩ := x_bind hf
  obtain ⟨σ43_24, hσ43_24, hf⟩ := x_bind hf
  refine a_aastore C dX0_init_43 44 rfl ho43_24 hσ43_24 ?_
  refine x_iinc C dX0_init_44 47 rfl 0 rfl 1 (by decide) rfl [(1, .int (1)), (0, .ref (x0))] rfl ?_
  refine x_goto C dX0_init_47 25 (by decide) ?_
  refine x_iload_n C dX0_init_25 26 rfl 0 rfl rfl ?_
  refine x_bipush C dX0_init_26 28 rfl 20 (by decide) ?_
  refine x_icmp_ge C dX0_init_28 50 (by decide) 31 rfl (fun hc => absurd hc (by decide)) (fun _ => ?_)
  refine x_aload_n C dX0_init_31 32 rfl 1 rfl rfl ?_
  obtain ⟨v32_31, hv32_31, hf⟩ := x_bind hf
  refine x_getR C dX0_init_32 35 rfl hv32_31 cl0 rfl w266 ?_
  refine x_iload_n C dX0_init_35 36 rfl 0 rfl rfl ?_
  obtain ⟨σ36_33, eσ36_33, hf⟩ := xlet_some hf
  refine a_new C O dX0_init_36 39 rfl cl2 w263 w163 w129 [.null, .null, .null, .null, .null] df2 (h + 12) rfl ⟨Nat.le_of_ble_eq_true rfl, Nat.le_of_ble_eq_true rfl⟩ eσ36_33 (13, 336) rfl ?_
  refine x_dup C dX0_init_39 40 rfl rfl ?_
  obtain ⟨σ40_35, hσ40_35, hf⟩ := x_bind hf
  refine a_initN C O dX0_init_40 43 rfl rfl (cX2_initc hσ40_35) kX2_init kiX2_init (List.mem_of_getElem? (i := 1) rfl) ⟨rfl, rfl⟩ ⟨Nat.le_of_ble_eq_true rfl, Nat.le_of_ble_eq_true rfl⟩ ⟨Nat.le_of_ble_eq_true rfl, Nat.le_of_ble_eq_true rfl⟩ rfl rfl (Nat.le_of_ble_eq_true rfl) (23, 642) rfl ?_
  obtain ⟨o43_36, ho43_36, hf⟩ := x_bind hf
  obtain ⟨σ43_36, hσ43_36, hf⟩ := x_bind hf
  refine a_aastore C dX0_init_43 44 rfl ho43_36 hσ43_36 ?_
  refine x_iinc C dX0_init_44 47 rfl 0 rfl 2 (by decide) rfl [(1, .int (2)), (0, .ref (x0))] rfl ?_
  refine x_goto C dX0_init_47 25 (by decide) ?_
  refine x_iload_n C dX0_init_25 26 rfl 0 rfl rfl ?_
  refine x_bipush C dX0_init_26 28 rfl 20 (by decide) ?_
  refine x_icmp_ge C dX0_init_28 50 (by decide) 31 rfl (fun hc => absurd hc (by decide)) (fun _ => ?_)
  refine x_aload_n C dX0_init_31 32 rfl 1 rfl rfl ?_
  obtain ⟨v32_43, hv32_43, hf⟩ := x_bind hf
  refine x_getR C dX0_init_32 35 rfl hv32_43 cl0 rfl w266 ?_
  refine x_iload_n C dX0_init_35 36 rfl 0 rfl rfl ?_
  obtain ⟨σ36_45, eσ36_45, hf⟩ := xlet_some hf
  refine a_new C O dX0_init_36 39 rfl cl2 w263 w163 w129 [.null, .null, .null, .null, .null] df2 (h + 23) rfl ⟨Nat.le_of_ble_eq_true rfl, Nat.le_of_ble_eq_true rfl⟩ eσ36_45 (24, 647) rfl ?_
  refine x_dup C dX0_init_39 40 rfl rfl ?_
  obtain ⟨σ40_47, hσ40_47, hf⟩ := x_bind hf
  refine a_initN C O dX0_init_40 43 rfl rfl (cX2_initc hσ40_47) kX2_init kiX2_init (List.mem_of_getElem? (i := 1) rfl) ⟨rfl, rfl⟩ ⟨Nat.le_of_ble_eq_true rfl, Nat.le_of_ble_eq_true rfl⟩ ⟨Nat.le_of_ble_eq_true rfl, Nat.le_of_ble_eq_true rfl⟩ rfl rfl (Nat.le_of_ble_eq_true rfl) (34, 953) rfl ?_
  obtain ⟨o43_48, ho43_48, hf⟩ := x_bind hf
  obtain ⟨σ43_48, hσ43_48, hf⟩ := x_bind hf
  refine a_aastore C dX0_init_43 44 rfl ho43_48 hσ43_48 ?_
  refine x_iinc C dX0_init_44 47 rfl 0 rfl 3 (by decide) rfl [(1, .int (3)), (0, .ref (x0))] rfl ?_
  refine x_goto C dX0_init_47 25 (by decide) ?_
  refine x_iload_n C dX0_init_25 26 rfl 0 rfl rfl ?_
  refine x_bipush C dX0_init_26 28 rfl 20 (by decide) ?_
  refine x_icmp_ge C dX0_init_28 50 (by decide) 31 rfl (fun hc => absurd hc (by decide)) (fun _ => ?_)
  refine x_aload_n C dX0_init_31 32 rfl 1 rfl rfl ?_
  obtain ⟨v32_55, hv32_55, hf⟩ := x_bind hf
  refine x_getR C dX0_init_32 35 rfl hv32_55 cl0 rfl w266 ?_
  refine x_iload_n C dX0_init_35 36 rfl 0 rfl rfl ?_
  obtain ⟨σ36_57, eσ36_57, hf⟩ := xlet_some hf
  refine a_new C O dX0_init_36 39 rfl cl2 w263 w163 w129 [.null, .null, .null, .null, .null] df2 (h + 34) rfl ⟨Nat.le_of_ble_eq_true rfl, Nat.le_of_ble_eq_true rfl⟩ eσ36_57 (35, 958) rfl ?_
  refine x_dup C dX0_init_39 40 rfl rfl ?_
  obtain ⟨σ40_59, hσ40_59, hf⟩ := x_bind hf
  refine a_initN C O dX0_init_40 43 rfl rfl (cX2_initc hσ40_59) kX2_init kiX2_init (List.mem_of_getElem? (i := 1) rfl) ⟨rfl, rfl⟩ ⟨Nat.le_of_ble_eq_true rfl, Nat.le_of_ble_eq_true rfl⟩ ⟨Nat.le_of_ble_eq_true rfl, Nat.le_of_ble_eq_true rfl⟩ rfl rfl (Nat.le_of_ble_eq_true rfl) (45, 1264) rfl ?_
  obtain ⟨o43_60, ho43_60, hf⟩ := x_bind hf
  obtain ⟨σ43_60, hσ43_60, hf⟩ := x_bind hf
  refine a_aastore C dX0_init_43 44 rfl ho43_60 hσ43_60 ?_
  refine x_iinc C dX0_init_44 47 rfl 0 rfl 4 (by decide) rfl [(1, .int (4)), (0, .ref (x0))] rfl ?_
  refine x_goto C dX0_init_47 25 (by decide) ?_
  refine x_iload_n C dX0_init_25 26 rfl 0 rfl rfl ?_
  refine x_bipush C dX0_init_26 28 rfl 20 (by decide) ?_
  refine x_icmp_ge C dX0_init_28 50 (by decide) 31 rfl (fun hc => absurd hc (by decide)) (fun _ => ?_)
  refine x_aload_n C dX0_init_31 32 rfl 1 rfl rfl ?_
  obtain ⟨v32_67, hv32_67, hf⟩ := x_bind hf
  refine x_getR C dX0_init_32 35 rfl hv32_67 cl0 rfl w266 ?_
  refine x_iload_n C dX0_init_35 36 rfl 0 rfl rfl ?_
  obtain ⟨σ36_69, eσ36_69, hf⟩ := xlet_some hf
  refine a_new C O dX0_init_36 39 rfl cl2 w263 w163 w129 [.null, .null, .null, .null, .null] df2 (h + 45) rfl ⟨Nat.le_of_ble_eq_true rfl, Nat.le_of_ble_eq_true rfl⟩ eσ36_69 (46, 1269) rfl ?_
  refine x_dup C dX0_init_39 40 rfl rfl ?_
  obtain ⟨σ40_71, hσ40_71, hf⟩ := x_bind hf
  refine a_initN C O dX0_init_40 43 rfl rfl (cX2_initc hσ40_71) kX2_init kiX2_init (List.mem_of_getElem? (i := 1) rfl) ⟨rfl, rfl⟩ ⟨Nat.le_of_ble_eq_true rfl, Nat.le_of_ble_eq_true rfl⟩ ⟨Nat.le_of_ble_eq_true rfl, Nat.le_of_ble_eq_true rfl⟩ rfl rfl (Nat.le_of_ble_eq_true rfl) (56, 1575) rfl ?_
  obtain ⟨o43_72, ho43_72, hf⟩ := x_bind hf
  obtain ⟨σ43_72, hσ43_72, hf⟩ := x_bind hf
  refine a_aastore C dX0_init_43 44 rfl ho43_72 hσ43_72 ?_
  refine x_iinc C dX0_init_44 47 rfl 0 rfl 5 (by decide) rfl [(1, .int (5)), (0, .ref (x0))] rfl ?_
  refine x_goto C dX0_init_47 25 (by decide) ?_
  refine x_iload_n C dX0_init_25 26 rfl 0 rfl rfl ?_
  refine x_bipush C dX0_init_26 28 rfl 20 (by decide) ?_
  refine x_icmp_ge C dX0_init_28 50 (by decide) 31 rfl (fun hc => absurd hc (by decide)) (fun _ => ?_)
  refine x_aload_n C dX0_init_31 32 rfl 1 rfl rfl ?_
  obtain ⟨v32_79, hv32_79, hf⟩ := x_bind hf
  refine x_getR C dX0_init_32 35 rfl hv32_79 cl0 rfl w266 ?_
  refine x_iload_n C dX0_init_35 36 rfl 0 rfl rfl ?_
  obtain ⟨σ36_81, eσ36_81, hf⟩ := xlet_some hf
  refine a_new C O dX0_init_36 39 rfl cl2 w263 w163 w129 [.null, .null, .null, .null, .null] df2 (h + 56) rfl ⟨Nat.le_of_ble_eq_true rfl, Nat.le_of_ble_eq_true rfl⟩ eσ36_81 (57, 1580) rfl ?_
  refine x_dup C dX0_init_39 40 rfl rfl ?_
  obtain ⟨σ40_83, hσ40_83, hf⟩ := x_bind hf
  refine a_initN C O dX0_init_40 43 rfl rfl (cX2_initc hσ40_83) kX2_init kiX2_init (List.mem_of_getElem? (i := 1) rfl) ⟨rfl, rfl⟩ ⟨Nat.le_of_ble_eq_true rfl, Nat.le_of_ble_eq_true rfl⟩ ⟨Nat.le_of_ble_eq_true rfl, Nat.le_of_ble_eq_true rfl⟩ rfl rfl (Nat.le_of_ble_eq_true rfl) (67, 1886) rfl ?_
  obtain ⟨o43_84, ho43_84, hf⟩ := x_bind hf
  obtain ⟨σ43_84, hσ43_84, hf⟩ := x_bind hf
  refine a_aastore C dX0_init_43 44 rfl ho43_84 hσ43_84 ?_
  refine x_iinc C dX0_init_44 47 rfl 0 rfl 6 (by decide) rfl [(1, .int (6)), (0, .ref (x0))] rfl ?_
  refine x_goto C dX0_init_47 25 (by decide) ?_
  refine x_iload_n C dX0_init_25 26 rfl 0 rfl rfl ?_
  refine x_bipush C dX0_init_26 28 rfl 20 (by decide) ?_
  refine x_icmp_ge C dX0_init_28 50 (by decide) 31 rfl (fun hc => absurd hc (by decide)) (fun _ => ?_)
  refine x_aload_n C dX0_init_31 32 rfl 1 rfl rfl ?_
  obtain ⟨v32_91, hv32_91, hf⟩ := x_bind hf
  refine x_getR C dX0_init_32 35 rfl hv32_91 cl0 rfl w266 ?_
  refine x_iload_n C dX0_init_35 36 rfl 0 rfl rfl ?_
  obtain ⟨σ36_93, eσ36_93, hf⟩ := xlet_some hf
  refine a_new C O dX0_init_36 39 rfl cl2 w263 w163 w129 [.null, .null, .null, .null, .null] df2 (h + 67) rfl ⟨Nat.le_of_ble_eq_true rfl, Nat.le_of_ble_eq_true rfl⟩ eσ36_93 (68, 1891) rfl ?_
  refine x_dup C dX0_init_39 40 rfl rfl ?_
  obtain ⟨σ40_95, hσ40_95, hf⟩ := x_bind hf
  refine a_initN C O dX0_init_40 43 rfl rfl (cX2_initc hσ40_95) kX2_init kiX2_init (List.mem_of_getElem? (i := 1) rfl) ⟨rfl, rfl⟩ ⟨Nat.le_of_ble_eq_true rfl, Nat.le_of_ble_eq_true rfl⟩ ⟨Nat.le_of_ble_eq_true rfl, Nat.le_of_ble_eq_true rfl⟩ rfl rfl (Nat.le_of_ble_eq_true rfl) (78, 2197) rfl ?_
  obtain ⟨o43_96, ho43_96, hf⟩ := x_bind hf
  obtain ⟨σ43_96, hσ43_96, hf⟩ := x_bind hf
  refine a_aastore C dX0_init_43 44 rfl ho43_96 hσ43_96 ?_
  refine x_iinc C dX0_init_44 47 rfl 0 rfl 7 (by decide) rfl [(1, .int (7)), (0, .ref (x0))] rfl ?_
  refine x_goto C dX0_init_47 25 (by decide) ?_
  refine x_iload_n C dX0_init_25 26 rfl 0 rfl rfl ?_
  refine x_bipush C dX0_init_26 28 rfl 20 (by decide) ?_
  refine x_icmp_ge C dX0_init_28 50 (by decide) 31 rfl (fun hc => absurd hc (by decide)) (fun _ => ?_)
  refine x_aload_n C dX0_init_31 32 rfl 1 rfl rfl ?_
  obtain ⟨v32_103, hv32_103, hf⟩ := x_bind hf
  refine x_getR C dX0_init_32 35 rfl hv32_103 cl0 rfl w266 ?_
  refine x_iload_n C dX0_init_35 36 rfl 0 rfl rfl ?_
  obtain ⟨σ36_105, eσ36_105, hf⟩ := xlet_some hf
  refine a_new C O dX0_init_36 39 rfl cl2 w263 w163 w129 [.null, .null, .null, .null, .null] df2 (h + 78) rfl ⟨Nat.le_of_ble_eq_true rfl, Nat.le_of_ble_eq_true rfl⟩ eσ36_105 (79, 2202) rfl ?_
  refine x_dup C dX0_init_39 40 rfl rfl ?_
  obtain ⟨σ40_107, hσ40_107, hf⟩ := x_bind hf
  refine a_initN C O dX0_init_40 43 rfl rfl (cX2_initc hσ40_107) kX2_init kiX2_init (List.mem_of_getElem? (i := 1) rfl) ⟨rfl, rfl⟩ ⟨Nat.le_of_ble_eq_true rfl, Nat.le_of_ble_eq_true rfl⟩ ⟨Nat.le_of_ble_eq_true rfl, Nat.le_of_ble_eq_true rfl⟩ rfl rfl (Nat.le_of_ble_eq_true rfl) (89, 2508) rfl ?_
  obtain ⟨o43_108, ho43_108, hf⟩ := x_bind hf
  obtain ⟨σ43_108, hσ43_108, hf⟩ := x_bind hf
  refine a_aastore C dX0_init_43 44 rfl ho43_108 hσ43_108 ?_
  refine x_iinc C dX0_init_44 47 rfl 0 rfl 8 (by decide) rfl [(1, .int (8)), (0, .ref (x0))] rfl ?_
  refine x_goto C dX0_init_47 25 (by decide) ?_
  refine x_iload_n C dX0_init_25 26 rfl 0 rfl rfl ?_
  refine x_bipush C dX0_init_26 28 rfl 20 (by decide) ?_
  refine x_icmp_ge C dX0_init_28 50 (by decide) 31 rfl (fun hc => absurd hc (by decide)) (fun _ => ?_)
  refine x_aload_n C dX0_init_31 32 rfl 1 rfl rfl ?_
  obtain ⟨v32_115, hv32_115, hf⟩ := x_bind hf
  refine x_getR C dX0_init_32 35 rfl hv32_115 cl0 rfl w266 ?_
  refine x_iload_n C dX0_init_35 36 rfl 0 rfl rfl ?_
  obtain ⟨σ36_117, eσ36_117, hf⟩ := xlet_some hf
  refine a_new C O dX0_init_36 39 rfl cl2 w263 w163 w129 [.null, .null, .null, .null, .null] df2 (h + 89) rfl ⟨Nat.le_of_ble_eq_true rfl, Nat.le_of_ble_eq_true rfl⟩ eσ36_117 (90, 2513) rfl ?_
  refine x_dup C dX0_init_39 40 rfl rfl ?_
  obtain ⟨σ40_119, hσ40_119, hf⟩ := x_bind hf
  refine a_initN C O dX0_init_40 43 rfl rfl (cX2_initc hσ40_119) kX2_init kiX2_init (List.mem_of_getElem? (i := 1) rfl) ⟨rfl, rfl⟩ ⟨Nat.le_of_ble_eq_true rfl, Nat.le_of_ble_eq_true rfl⟩ ⟨Nat.le_of_ble_eq_true rfl, Nat.le_of_ble_eq_true rfl⟩ rfl rfl (Nat.le_of_ble_eq_true rfl) (100, 2819) rfl ?_
  obtain ⟨o43_120, ho43_120, hf⟩ := x_bind hf
  obtain ⟨σ43_120, hσ43_120, hf⟩ := x_bind hf
  refine a_aastore C dX0_init_43 44 rfl ho43_120 hσ43_120 ?_
  refine x_iinc C dX0_init_44 47 rfl 0 rfl 9 (by decide) rfl [(1, .int (9)), (0, .ref (x0))] rfl ?_
  refine x_goto C dX0_init_47 25 (by decide) ?_
  refine x_iload_n C dX0_init_25 26 rfl 0 rfl rfl ?_
  refine x_bipush C dX0_init_26 28 rfl 20 (by decide) ?_
  refine x_icmp_ge C dX0_init_28 50 (by decide) 31 rfl (fun hc => absurd hc (by decide)) (fun _ => ?_)
  refine x_aload_n C dX0_init_31 32 rfl 1 rfl rfl ?_
  obtain ⟨v32_127, hv32_127, hf⟩ := x_bind hf
  refine x_getR C dX0_init_32 35 rfl hv32_127 cl0 rfl w266 ?_
  refine x_iload_n C dX0_init_35 36 rfl 0 rfl rfl ?_
  obtain ⟨σ36_129, eσ36_129, hf⟩ := xlet_some hf
  refine a_new C O dX0_init_36 39 rfl cl2 w263 w163 w129 [.null, .null, .null, .null, .null] df2 (h + 100) rfl ⟨Nat.le_of_ble_eq_true rfl, Nat.le_of_ble_eq_true rfl⟩ eσ36_129 (101, 2824) rfl ?_
  refine x_dup C dX0_init_39 40 rfl rfl ?_
  obtain ⟨σ40_131, hσ40_131, hf⟩ := x_bind hf
  refine a_initN C O dX0_init_40 43 rfl rfl (cX2_initc hσ40_131) kX2_init kiX2_init (List.mem_of_getElem? (i := 1) rfl) ⟨rfl, rfl⟩ ⟨Nat.le_of_ble_eq_true rfl, Nat.le_of_ble_eq_true rfl⟩ ⟨Nat.le_of_ble_eq_true rfl, Nat.le_of_ble_eq_true rfl⟩ rfl rfl (Nat.le_of_ble_eq_true rfl) (111, 3130) rfl ?_
  obtain ⟨o43_132, ho43_132, hf⟩ := x_bind hf
  obtain ⟨σ43_132, hσ43_132, hf⟩ := x_bind hf
  refine a_aastore C dX0_init_43 44 rfl ho43_132 hσ43_132 ?_
  refine x_iinc C dX0_init_44 47 rfl 0 rfl 10 (by decide) rfl [(1, .int (10)), (0, .ref (x0))] rfl ?_
  refine x_goto C dX0_init_47 25 (by decide) ?_
  refine x_iload_n C dX0_init_25 26 rfl 0 rfl rfl ?_
  refine x_bipush C dX0_init_26 28 rfl 20 (by decide) ?_
  refine x_icmp_ge C dX0_init_28 50 (by decide) 31 rfl (fun hc => absurd hc (by decide)) (fun _ => ?_)
  refine x_aload_n C dX0_init_31 32 rfl 1 rfl rfl ?_
  obtain ⟨v32_139, hv32_139, hf⟩ := x_bind hf
  refine x_getR C dX0_init_32 35 rfl hv32_139 cl0 rfl w266 ?_
  refine x_iload_n C dX0_init_35 36 rfl 0 rfl rfl ?_
  obtain ⟨σ36_141, eσ36_141, hf⟩ := xlet_some hf
  refine a_new C O dX0_init_36 39 rfl cl2 w263 w163 w129 [.null, .null, .null, .null, .null] df2 (h + 111) rfl ⟨Nat.le_of_ble_eq_true rfl, Nat.le_of_ble_eq_true rfl⟩ eσ36_141 (112, 3135) rfl ?_
  refine x_dup C dX0_init_39 40 rfl rfl ?_
  obtain ⟨σ40_143, hσ40_143, hf⟩ := x_bind hf
  refine a_initN C O dX0_init_40 43 rfl rfl (cX2_initc hσ40_143) kX2_init kiX2_init (List.mem_of_getElem? (i := 1) rfl) ⟨rfl, rfl⟩ ⟨Nat.le_of_ble_eq_true rfl, Nat.le_of_ble_eq_true rfl⟩ ⟨Nat.le_of_ble_eq_true rfl, Nat.le_of_ble_eq_true rfl⟩ rfl rfl (Nat.le_of_ble_eq_true rfl) (122, 3441) rfl ?_
  obtain ⟨o43_144, ho43_144, hf⟩ := x_bind hf
  obtain ⟨σ43_144, hσ43_144, hf⟩ := x_bind hf
  refine a_aastore C dX0_init_43 44 rfl ho43_144 hσ43_144 ?_
  refine x_iinc C dX0_init_44 47 rfl 0 rfl 11 (by decide) rfl [(1, .int (11)), (0, .ref (x0))] rfl ?_
  refine x_goto C dX0_init_47 25 (by decide) ?_
  refine x_iload_n C dX0_init_25 26 rfl 0 rfl rfl ?_
  refine x_bipush C dX0_init_26 28 rfl 20 (by decide) ?_
  refine x_icmp_ge C dX0_init_28 50 (by decide) 31 rfl (fun hc => absurd hc (by decide)) (fun _ => ?_)
  refine x_aload_n C dX0_init_31 32 rfl 1 rfl rfl ?_
  obtain ⟨v32_151, hv32_151, hf⟩ := x_bind hf
  refine x_getR C dX0_init_32 35 rfl hv32_151 cl0 rfl w266 ?_
  refine x_iload_n C dX0_init_35 36 rfl 0 rfl rfl ?_
  obtain ⟨σ36_153, eσ36_153, hf⟩ := xlet_some hf
  refine a_new C O dX0_init_36 39 rfl cl2 w263 w163 w129 [.null, .null, .null, .null, .null] df2 (h + 122) rfl ⟨Nat.le_of_ble_eq_true rfl, Nat.le_of_ble_eq_true rfl⟩ eσ36_153 (123, 3446) rfl ?_
  refine x_dup C dX0_init_39 40 rfl rfl ?_
  obtain ⟨σ40_155, hσ40_155, hf⟩ := x_bind hf
  refine a_initN C O dX0_init_40 43 rfl rfl (cX2_initc hσ40_155) kX2_init kiX2_init (List.mem_of_getElem? (i := 1) rfl) ⟨rfl, rfl⟩ ⟨Nat.le_of_ble_eq_true rfl, Nat.le_of_ble_eq_true rfl⟩ ⟨Nat.le_of_ble_eq_true rfl, Nat.le_of_ble_eq_true rfl⟩ rfl rfl (Nat.le_of_ble_eq_true rfl) (133, 3752) rfl ?_
  obtain ⟨o43_156, ho43_156, hf⟩ := x_bind hf
  obtain ⟨σ43_156, hσ43_156, hf⟩ := x_bind hf
  refine a_aastore C dX0_init_43 44 rfl ho43_156 hσ43_156 ?_
  refine x_iinc C dX0_init_44 47 rfl 0 rfl 12 (by decide) rfl [(1, .int (12)), (0, .ref (x0))] rfl ?_
  refine x_goto C dX0_init_47 25 (by decide) ?_
  refine x_iload_n C dX0_init_25 26 rfl 0 rfl rfl ?_
  refine x_bipush C dX0_init_26 28 rfl 20 (by decide) ?_
  refine x_icmp_ge C dX0_init_28 50 (by decide) 31 rfl (fun hc => absurd hc (by decide)) (fun _ => ?_)
  refine x_aload_n C dX0_init_31 32 rfl 1 rfl rfl ?_
  obtain ⟨v32_163, hv32_163, hf⟩ := x_bind hf
  refine x_getR C dX0_init_32 35 rfl hv32_163 cl0 rfl w266 ?_
  refine x_iload_n C dX0_init_35 36 rfl 0 rfl rfl ?_
  obtain ⟨σ36_165, eσ36_165, hf⟩ := xlet_some hf
  refine a_new C O dX0_init_36 39 rfl cl2 w263 w163 w129 [.null, .null, .null, .null, .null] df2 (h + 133) rfl ⟨Nat.le_of_ble_eq_true rfl, Nat.le_of_ble_eq_true rfl⟩ eσ36_165 (134, 3757) rfl ?_
  refine x_dup C dX0_init_39 40 rfl rfl ?_
  obtain ⟨σ40_167, hσ40_167, hf⟩ := x_bind hf
  refine a_initN C O dX0_init_40 43 rfl rfl (cX2_initc hσ40_167) kX2_init kiX2_init (List.mem_of_getElem? (i := 1) rfl) ⟨rfl, rfl⟩ ⟨Nat.le_of_ble_eq_true rfl, Nat.le_of_ble_eq_true rfl⟩ ⟨Nat.le_of_ble_eq_true rfl, Nat.le_of_ble_eq_true rfl⟩ rfl rfl (Nat.le_of_ble_eq_true rfl) (144, 4063) rfl ?_
  obtain ⟨o43_168, ho43_168, hf⟩ := x_bind hf
  obtain ⟨σ43_168, hσ43_168, hf⟩ := x_bind hf
  refine a_aastore C dX0_init_43 44 rfl ho43_168 hσ43_168 ?_
  refine x_iinc C dX0_init_44 47 rfl 0 rfl 13 (by decide) rfl [(1, .int (13)), (0, .ref (x0))] rfl ?_
  refine x_goto C dX0_init_47 25 (by decide) ?_
  refine x_iload_n C dX0_init_25 26 rfl 0 rfl rfl ?_
  refine x_bipush C dX0_init_26 28 rfl 20 (by decide) ?_
  refine x_icmp_ge C dX0_init_28 50 (by decide) 31 rfl (fun hc => absurd hc (by decide)) (fun _ => ?_)
  refine x_aload_n C dX0_init_31 32 rfl 1 rfl rfl ?_
  obtain ⟨v32_175, hv32_175, hf⟩ := x_bind hf
  refine x_getR C dX0_init_32 35 rfl hv32_175 cl0 rfl w266 ?_
  refine x_iload_n C dX0_init_35 36 rfl 0 rfl rfl ?_
  obtain ⟨σ36_177, eσ36_177, hf⟩ := xlet_some hf
  refine a_new C O dX0_init_36 39 rfl cl2 w263 w163 w129 [.null, .null, .null, .null, .null] df2 (h + 144) rfl ⟨Nat.le_of_ble_eq_true rfl, Nat.le_of_ble_eq_true rfl⟩ eσ36_177 (145, 4068) rfl ?_
  refine x_dup C dX0_init_39 40 rfl rfl ?_
  obtain ⟨σ40_179, hσ40_179, hf⟩ := x_bind hf
  refine a_initN C O dX0_init_40 43 rfl rfl (cX2_initc hσ40_179) kX2_init kiX2_init (List.mem_of_getElem? (i := 1) rfl) ⟨rfl, rfl⟩ ⟨Nat.le_of_ble_eq_true rfl, Nat.le_of_ble_eq_true rfl⟩ ⟨Nat.le_of_ble_eq_true rfl, Nat.le_of_ble_eq_true rfl⟩ rfl rfl (Nat.le_of_ble_eq_true rfl) (155, 4374) rfl ?_
  obtain ⟨o43_180, ho43_180, hf⟩ := x_bind hf
  obtain ⟨σ43_180, hσ43_180, hf⟩ := x_bind hf
  refine a_aastore C dX0_init_43 44 rfl ho43_180 hσ43_180 ?_
  refine x_iinc C dX0_init_44 47 rfl 0 rfl 14 (by decide) rfl [(1, .int (14)), (0, .ref (x0))] rfl ?_
  refine x_goto C dX0_init_47 25 (by decide) ?_
  refine x_iload_n C dX0_init_25 26 rfl 0 rfl rfl ?_
  refine x_bipush C dX0_init_26 28 rfl 20 (by decide) ?_
  refine x_icmp_ge C dX0_init_28 50 (by decide) 31 rfl (fun hc => absurd hc (by decide)) (fun _ => ?_)
  refine x_aload_n C dX0_init_31 32 rfl 1 rfl rfl ?_
  obtain ⟨v32_187, hv32_187, hf⟩ := x_bind hf
  refine x_getR C dX0_init_32 35 rfl hv32_187 cl0 rfl w266 ?_
  refine x_iload_n C dX0_init_35 36 rfl 0 rfl rfl ?_
  obtain ⟨σ36_189, eσ36_189, hf⟩ := xlet_some hf
  refine a_new C O dX0_init_36 39 rfl cl2 w263 w163 w129 [.null, .null, .null, .null, .null] df2 (h + 155) rfl ⟨Nat.le_of_ble_eq_true rfl, Nat.le_of_ble_eq_true rfl⟩ eσ36_189 (156, 4379) rfl ?_
  refine x_dup C dX0_init_39 40 rfl rfl ?_
  obtain ⟨σ40_191, hσ40_191, hf⟩ := x_bind hf
  refine a_initN C O dX0_init_40 43 rfl rfl (cX2_initc hσ40_191) kX2_init kiX2_init (List.mem_of_getElem? (i := 1) rfl) ⟨rfl, rfl⟩ ⟨Nat.le_of_ble_eq_true rfl, Nat.le_of_ble_eq_true rfl⟩ ⟨Nat.le_of_ble_eq_true rfl, Nat.le_of_ble_eq_true rfl⟩ rfl rfl (Nat.le_of_ble_eq_true rfl) (166, 4685) rfl ?_
  obtain ⟨o43_192, ho43_192, hf⟩ := x_bind hf
  obtain ⟨σ43_192, hσ43_192, hf⟩ := x_bind hf
  refine a_aastore C dX0_init_43 44 rfl ho43_192 hσ43_192 ?_
  refine x_iinc C dX0_init_44 47 rfl 0 rfl 15 (by decide) rfl [(1, .int (15)), (0, .ref (x0))] rfl ?_
  refine x_goto C dX0_init_47 25 (by decide) ?_
  refine x_iload_n C dX0_init_25 26 rfl 0 rfl rfl ?_
  refine x_bipush C dX0_init_26 28 rfl 20 (by decide) ?_
  refine x_icmp_ge C dX0_init_28 50 (by decide) 31 rfl (fun hc => absurd hc (by decide)) (fun _ => ?_)
  refine x_aload_n C dX0_init_31 32 rfl 1 rfl rfl ?_
  obtain ⟨v32_199, hv32_199, hf⟩ := x_bind hf
  refine x_getR C dX0_init_32 35 rfl hv32_199 cl0 rfl w266 ?_
  refine x_iload_n C dX0_init_35 36 rfl 0 rfl rfl ?_
  obtain ⟨σ36_201, eσ36_201, hf⟩ := xlet_some hf
  refine a_new C O dX0_init_36 39 rfl cl2 w263 w163 w129 [.null, .null, .null, .null, .null] df2 (h + 166) rfl ⟨Nat.le_of_ble_eq_true rfl, Nat.le_of_ble_eq_true rfl⟩ eσ36_201 (167, 4690) rfl ?_
  refine x_dup C dX0_init_39 40 rfl rfl ?_
  obtain ⟨σ40_203, hσ40_203, hf⟩ := x_bind hf
  refine a_initN C O dX0_init_40 43 rfl rfl (cX2_initc hσ40_203) kX2_init kiX2_init (List.mem_of_getElem? (i := 1) rfl) ⟨rfl, rfl⟩ ⟨Nat.le_of_ble_eq_true rfl, Nat.le_of_ble_eq_true rfl⟩ ⟨Nat.le_of_ble_eq_true rfl, Nat.le_of_ble_eq_true rfl⟩ rfl rfl (Nat.le_of_ble_eq_true rfl) (177, 4996) rfl ?_
  obtain ⟨o43_204, ho43_204, hf⟩ := x_bind hf
  obtain ⟨σ43_204, hσ43_204, hf⟩ := x_bind hf
  refine a_aastore C dX0_init_43 44 rfl ho43_204 hσ43_204 ?_
  refine x_iinc C dX0_init_44 47 rfl 0 rfl 16 (by decide) rfl [(1, .int (16)), (0, .ref (x0))] rfl ?_
  refine x_goto C dX0_init_47 25 (by decide) ?_
  refine x_iload_n C dX0_init_25 26 rfl 0 rfl rfl ?_
  refine x_bipush C dX0_init_26 28 rfl 20 (by decide) ?_
  refine x_icmp_ge C dX0_init_28 50 (by decide) 31 rfl (fun hc => absurd hc (by decide)) (fun _ => ?_)
  refine x_aload_n C dX0_init_31 32 rfl 1 rfl rfl ?_
  obtain ⟨v32_211, hv32_211, hf⟩ := x_bind hf
  refine x_getR C dX0_init_32 35 rfl hv32_211 cl0 rfl w266 ?_
  refine x_iload_n C dX0_init_35 36 rfl 0 rfl rfl ?_
  obtain ⟨σ36_213, eσ36_213, hf⟩ := xlet_some hf
  refine a_new C O dX0_init_36 39 rfl cl2 w263 w163 w129 [.null, .null, .null, .null, .null] df2 (h + 177) rfl ⟨Nat.le_of_ble_eq_true rfl, Nat.le_of_ble_eq_true rfl⟩ eσ36_213 (178, 5001) rfl ?_
  refine x_dup C dX0_init_39 40 rfl rfl ?_
  obtain ⟨σ40_215, hσ40_215, hf⟩ := x_bind hf
  refine a_initN C O dX0_init_40 43 rfl rfl (cX2_initc hσ40_215) kX2_init kiX2_init (List.mem_of_getElem? (i := 1) rfl) ⟨rfl, rfl⟩ ⟨Nat.le_of_ble_eq_true rfl, Nat.le_of_ble_eq_true rfl⟩ ⟨Nat.le_of_ble_eq_true rfl, Nat.le_of_ble_eq_true rfl⟩ rfl rfl (Nat.le_of_ble_eq_true rfl) (188, 5307) rfl ?_
  obtain ⟨o43_216, ho43_216, hf⟩ := x_bind hf
  obtain ⟨σ43_216, hσ43_216, hf⟩ := x_bind hf
  refine a_aastore C dX0_init_43 44 rfl ho43_216 hσ43_216 ?_
  refine x_iinc C dX0_init_44 47 rfl 0 rfl 17 (by decide) rfl [(1, .int (17)), (0, .ref (x0))] rfl ?_
  refine x_goto C dX0_init_47 25 (by decide) ?_
  refine x_iload_n C dX0_init_25 26 rfl 0 rfl rfl ?_
  refine x_bipush C dX0_init_26 28 rfl 20 (by decide) ?_
  refine x_icmp_ge C dX0_init_28 50 (by decide) 31 rfl (fun hc => absurd hc (by decide)) (fun _ => ?_)
  refine x_aload_n C dX0_init_31 32 rfl 1 rfl rfl ?_
  obtain ⟨v32_223, hv32_223, hf⟩ := x_bind hf
  refine x_getR C dX0_init_32 35 rfl hv32_223 cl0 rfl w266 ?_
  refine x_iload_n C dX0_init_35 36 rfl 0 rfl rfl ?_
  obtain ⟨σ36_225, eσ36_225, hf⟩ := xlet_some hf
  refine a_new C O dX0_init_36 39 rfl cl2 w263 w163 w129 [.null, .null, .null, .null, .null] df2 (h + 188) rfl ⟨Nat.le_of_ble_eq_true rfl, Nat.le_of_ble_eq_true rfl⟩ eσ36_225 (189, 5312) rfl ?_
  refine x_dup C dX0_init_39 40 rfl rfl ?_
  obtain ⟨σ40_227, hσ40_227, hf⟩ := x_bind hf
  refine a_initN C O dX0_init_40 43 rfl rfl (cX2_initc hσ40_227) kX2_init kiX2_init (List.mem_of_getElem? (i := 1) rfl) ⟨rfl, rfl⟩ ⟨Nat.le_of_ble_eq_true rfl, Nat.le_of_ble_eq_true rfl⟩ ⟨Nat.le_of_ble_eq_true rfl, Nat.le_of_ble_eq_true rfl⟩ rfl rfl (Nat.le_of_ble_eq_true rfl) (199, 5618) rfl ?_
  obtain ⟨o43_228, ho43_228, hf⟩ := x_bind hf
  obtain ⟨σ43_228, hσ43_228, hf⟩ := x_bind hf
  refine a_aastore C dX0_init_43 44 rfl ho43_228 hσ43_228 ?_
  refine x_iinc C dX0_init_44 47 rfl 0 rfl 18 (by decide) rfl [(1, .int (18)), (0, .ref (x0))] rfl ?_
  refine x_goto C dX0_init_47 25 (by decide) ?_
  refine x_iload_n C dX0_init_25 26 rfl 0 rfl rfl ?_
  refine x_bipush C dX0_init_26 28 rfl 20 (by decide) ?_
  refine x_icmp_ge C dX0_init_28 50 (by decide) 31 rfl (fun hc => absurd hc (by decide)) (fun _ => ?_)
  refine x_aload_n C dX0_init_31 32 rfl 1 rfl rfl ?_
  obtain ⟨v32_235, hv32_235, hf⟩ := x_bind hf
  refine x_getR C dX0_init_32 35 rfl hv32_235 cl0 rfl w266 ?_
  refine x_iload_n C dX0_init_35 36 rfl 0 rfl rfl ?_
  obtain ⟨σ36_237, eσ36_237, hf⟩ := xlet_some hf
  refine a_new C O dX0_init_36 39 rfl cl2 w263 w163 w129 [.null, .null, .null, .null, .null] df2 (h + 199) rfl ⟨Nat.le_of_ble_eq_true rfl, Nat.le_of_ble_eq_true rfl⟩ eσ36_237 (200, 5623) rfl ?_
  refine x_dup C dX0_init_39 40 rfl rfl ?_
  obtain ⟨σ40_239, hσ40_239, hf⟩ := x_bind hf
  refine a_initN C O dX0_init_40 43 rfl rfl (cX2_initc hσ40_239) kX2_init kiX2_init (List.mem_of_getElem? (i := 1) rfl) ⟨rfl, rfl⟩ ⟨Nat.le_of_ble_eq_true rfl, Nat.le_of_ble_eq_true rfl⟩ ⟨Nat.le_of_ble_eq_true rfl, Nat.le_of_ble_eq_true rfl⟩ rfl rfl (Nat.le_of_ble_eq_true rfl) (210, 5929) rfl ?_
  obtain ⟨o43_240, ho43_240, hf⟩ := x_bind hf
  obtain ⟨σ43_240, hσ43_240, hf⟩ := x_bind hf
  refine a_aastore C dX0_init_43 44 rfl ho43_240 hσ43_240 ?_
  refine x_iinc C dX0_init_44 47 rfl 0 rfl 19 (by decide) rfl [(1, .int (19)), (0, .ref (x0))] rfl ?_
  refine x_goto C dX0_init_47 25 (by decide) ?_
  refine x_iload_n C dX0_init_25 26 rfl 0 rfl rfl ?_
  refine x_bipush C dX0_init_26 28 rfl 20 (by decide) ?_
  refine x_icmp_ge C dX0_init_28 50 (by decide) 31 rfl (fun hc => absurd hc (by decide)) (fun _ => ?_)
  refine x_aload_n C dX0_init_31 32 rfl 1 rfl rfl ?_
  obtain ⟨v32_247, hv32_247, hf⟩ := x_bind hf
  refine x_getR C dX0_init_32 35 rfl hv32_247 cl0 rfl w266 ?_
  refine x_iload_n C dX0_init_35 36 rfl 0 rfl rfl ?_
  obtain ⟨σ36_249, eσ36_249, hf⟩ := xlet_some hf
  refine a_new C O dX0_init_36 39 rfl cl2 w263 w163 w129 [.null, .null, .null, .null, .null] df2 (h + 210) rfl ⟨Nat.le_of_ble_eq_true rfl, Nat.le_of_ble_eq_true rfl⟩ eσ36_249 (211, 5934) rfl ?_
  refine x_dup C dX0_init_39 40 rfl rfl ?_
  obtain ⟨σ40_251, hσ40_251, hf⟩ := x_bind hf
  refine a_initN C O dX0_init_40 43 rfl rfl (cX2_initc hσ40_251) kX2_init kiX2_init (List.mem_of_getElem? (i := 1) rfl) ⟨rfl, rfl⟩ ⟨Nat.le_of_ble_eq_true rfl, Nat.le_of_ble_eq_true rfl⟩ ⟨Nat.le_of_ble_eq_true rfl, Nat.le_of_ble_eq_true rfl⟩ rfl rfl (Nat.le_of_ble_eq_true rfl) (221, 6240) rfl ?_
  obtain ⟨o43_252, ho43_252, hf⟩ := x_bind hf
  obtain ⟨σ43_252, hσ43_252, hf⟩ := x_bind hf
  refine a_aastore C dX0_init_43 44 rfl ho43_252 hσ43_252 ?_
  refine x_iinc C dX0_init_44 47 rfl 0 rfl 20 (by decide) rfl [(1, .int (20)), (0, .ref (x0))] rfl ?_
  refine x_goto C dX0_init_47 25 (by decide) ?_
  refine x_iload_n C dX0_init_25 26 rfl 0 rfl rfl ?_
  refine x_bipush C dX0_init_26 28 rfl 20 (by decide) ?_
  refine x_icmp_ge C dX0_init_28 50 (by decide) 31 rfl (fun _ => ?_) (fun hc => absurd (by decide) hc)
  exact a_vret C O (hE _ (Option.some.inj hf).symm) rfl dX0_init_50
theorem dX7_init_0 : decode cX7_init 0 = .ok (.aload_n 0, 1) := by decide +kernel
theorem dX7_init_1 : decode cX7_init 1 = .ok (.invokespecial 3, 3) := by decide +kernel
theorem dX7_init_4 : decode cX7_init 4 = .ok (.aload_n 0, 1) := by decide +kernel
theorem dX7_init_5 : decode cX7_init 5 = .ok (.new 9, 3) := by decide +kernel
theorem dX7_init_8 : decode cX7_init 8 = .ok (.dup, 1) := by decide +kernel
theorem dX7_init_9 : decode cX7_init 9 = .ok (.invokespecial 11, 3) := by decide +kernel
theorem dX7_init_12 : decode cX7_init 12 = .ok (.putfield 12, 3) := by decide +kernel
theorem dX7_init_15 : decode cX7_init 15 = .ok (.aload_n 0, 1) := by decide +kernel
theorem dX7_init_16 : decode cX7_init 16 = .ok (.iconst 0, 1) := by decide +kernel
theorem dX7_init_17 : decode cX7_init 17 = .ok (.putfield 18, 3) := by decide +kernel
theorem dX7_init_20 : decode cX7_init 20 = .ok (.aload_n 0, 1) := by decide +kernel
theorem dX7_init_21 : decode cX7_init 21 = .ok (.iconst 0, 1) := by decide +kernel
theorem dX7_init_22 : decode cX7_init 22 = .ok (.putfield 22, 3) := by decide +kernel
theorem dX7_init_25 : decode cX7_init 25 = .ok (.aload_n 0, 1) := by decide +kernel
theorem dX7_init_26 : decode cX7_init 26 = .ok (.iconst 0, 1) := by decide +kernel
theorem dX7_init_27 : decode cX7_init 27 = .ok (.putfield 25, 3) := by decide +kernel
theorem dX7_init_30 : decode cX7_init 30 = .ok (.aload_n 0, 1) := by decide +kernel
theorem dX7_init_31 : decode cX7_init 31 = .ok (.iconst 0, 1) := by decide +kernel
theorem dX7_init_32 : decode cX7_init 32 = .ok (.putfield 28, 3) := by decide +kernel
theorem dX7_init_35 : decode cX7_init 35 = .ok (.aload_n 0, 1) := by decide +kernel
theorem dX7_init_36 : decode cX7_init 36 = .ok (.aload_n 1, 1) := by decide +kernel
theorem dX7_init_37 : decode cX7_init 37 = .ok (.putfield 31, 3) := by decide +kernel
theorem dX7_init_40 : decode cX7_init 40 = .ok (.return_, 1) := by decide +kernel
abbrev rmX7_init : Room := { frames := 2, cells := 6, slots := 48, locals := 60 }
noncomputable def fX7_init (σ : St) (h : Nat) (x0 : Nat) (x1 : Nat) : Option St :=
xlet (xu σ (h + 0) (.inr (8, [.int 0, .int 0, .null, .null, .null, .null, .int 0, .null, .int 0]))) fun σ5_4 =>
(fX8_init σ5_4 (h + 1) (h + 0)).bind fun σ9_6 =>
(wrF σ9_6 x0 7 0 (.ref (h + 0))).bind fun σ12_7 =>
(wrF σ12_7 x0 7 2 (.int (0))).bind fun σ17_10 =>
(wrF σ17_10 x0 7 3 (.int (0))).bind fun σ22_13 =>
(wrF σ22_13 x0 7 4 (.int (0))).bind fun σ27_16 =>
(wrF σ27_16 x0 7 5 (.int (0))).bind fun σ32_19 =>
(wrF σ32_19 x0 7 1 (.ref (x1))).bind fun σ37_22 =>
some σ37_22
set_option maxHeartbeats 4000000 in
set_option maxRecDepth 100000 in
theorem cX7_initc {l : Launch} {G : xG} {A : Nat → Prop} {σ : St} {h : Nat} {x0 : Nat} {x1 : Nat} {c : St} (hf : fX7_init σ h x0 x1 = some c) : ConA l yX7_init (xws yX7_init cX7_init 2 none) rmX7_init 6 48 [.ref (x0), .ref (x1)] G A σ h c := by
  refine a_start rfl rfl (Nat.le_of_ble_eq_true rfl) (fun X _ _ _ C O hE0 => ?_)
  have hE : ∀ r, c = r → aE X 6 48 (h + 6) r := fun r e => e ▸ hE0
  show V X (0, 0) σ 0 [(0, .ref (x0)), (1, .ref (x1))] []
  unfold fX7_init at hf
  refine x_aload_n C dX7_init_0 1 rfl 0 rfl rfl ?_
  refine a_obj C dX7_init_1 4 rfl w282 objw ⟨Nat.le_of_ble_eq_true rfl, Nat.le_of_ble_eq_true rfl⟩ ?_
  refine x_aload_n C dX7_init_4 5 rfl 0 rfl rfl ?_
  obtain ⟨σ5_4, eσ5_4, hf⟩ := xlet_some hf
  refine a_new C O dX7_init_5 8 rfl cl8 w283 w169 w130 [.int 0, .int 0, .null, .null, .null, .null, .int 0, .null, .int 0] df8 (h + 0) rfl ⟨Nat.le_of_ble_eq_true rfl, Nat.le_of_ble_eq_true rfl⟩ eσ5_4 (1, 9) rfl ?_
  refine x_dup C dX7_init_8 9 rfl rfl ?_
  obtain ⟨σ9_6, hσ9_6, hf⟩ := x_bind hf
  refine a_init C O dX7_init_9 12 rfl rfl (cX8_initc hσ9_6) kX8_init kiX8_init w284 ⟨rfl, rfl⟩ ⟨Nat.le_of_ble_eq_true rfl, Nat.le_of_ble_eq_true rfl⟩ ⟨Nat.le_of_ble_eq_true rfl, Nat.le_of_ble_eq_true rfl⟩ rfl rfl (Nat.le_of_ble_eq_true rfl) (6, 48) rfl ?_
  obtain ⟨σ12_7, hσ12_7, hf⟩ := x_bind hf
  refine a_putF C O dX7_init_12 15 rfl hσ12_7 cl7 rfl w285 rfl rfl rfl rfl ?_
  refine x_aload_n C dX7_init_15 16 rfl 0 rfl rfl ?_
  refine x_iconst C dX7_init_16 17 rfl 0 (by decide) ?_
  obtain ⟨σ17_10, hσ17_10, hf⟩ := x_bind hf
  refine x_putX C dX7_init_17 20 rfl hσ17_10 cl7 rfl w288 rfl rfl rfl ?_
  refine x_aload_n C dX7_init_20 21 rfl 0 rfl rfl ?_
  refine x_iconst C dX7_init_21 22 rfl 0 (by decide) ?_
  obtain ⟨σ22_13, hσ22_13, hf⟩ := x_bind hf
  refine x_putX C dX7_init_22 25 rfl hσ22_13 cl7 rfl w289 rfl rfl rfl ?_
  refine x_aload_n C dX7_init_25 26 rfl 0 rfl rfl ?_
  refine x_iconst C dX7_init_26 27 rfl 0 (by decide) ?_
  obtain ⟨σ27_16, hσ27_16, hf⟩ := x_bind hf
  refine x_putX C dX7_init_27 30 rfl hσ27_16 cl7 rfl w290 rfl rfl rfl ?_
  refine x_aload_n C dX7_init_30 31 rfl 0 rfl rfl ?_
  refine x_iconst C dX7_init_31 32 rfl 0 (by decide) ?_
  obtain ⟨σ32_19, hσ32_19, hf⟩ := x_bind hf
  refine x_putX C dX7_init_32 35 rfl hσ32_19 cl7 rfl w292 rfl rfl rfl ?_
  refine x_aload_n C dX7_init_35 36 rfl 0 rfl rfl ?_
  refine x_aload_n C dX7_init_36 37 rfl 1 rfl rfl ?_
  obtain ⟨σ37_22, hσ37_22, hf⟩ := x_bind hf
  refine a_putF C O dX7_init_37 40 rfl hσ37_22 cl7 rfl w287 rfl rfl rfl rfl ?_
  exact a_vret C O (hE _ (Option.some.inj hf).symm) rfl dX7_init_40
theorem dX9_init_0 : decode cX9_init 0 = .ok (.aload_n 0, 1) := by decide +kernel
theorem dX9_init_1 : decode cX9_init 1 = .ok (.invokespecial 3, 3) := by decide +kernel
theorem dX9_init_4 : decode cX9_init 4 = .ok (.aload_n 0, 1) := by decide +kernel
theorem dX9_init_5 : decode cX9_init 5 = .ok (.bipush 61, 2) := by decide +kernel
theorem dX9_init_7 : decode cX9_init 7 = .ok (.newarray .long, 2) := by decide +kernel
theorem dX9_init_9 : decode cX9_init 9 = .ok (.putfield 11, 3) := by decide +kernel
theorem dX9_init_12 : decode cX9_init 12 = .ok (.aload_n 0, 1) := by decide +kernel
theorem dX9_init_13 : decode cX9_init 13 = .ok (.bipush 60, 2) := by decide +kernel
theorem dX9_init_15 : decode cX9_init 15 = .ok (.newarray .int, 2) := by decide +kernel
theorem dX9_init_17 : decode cX9_init 17 = .ok (.putfield 15, 3) := by decide +kernel
theorem dX9_init_20 : decode cX9_init 20 = .ok (.aload_n 0, 1) := by decide +kernel
theorem dX9_init_21 : decode cX9_init 21 = .ok (.iconst 0, 1) := by decide +kernel
theorem dX9_init_22 : decode cX9_init 22 = .ok (.putfield 19, 3) := by decide +kernel
theorem dX9_init_25 : decode cX9_init 25 = .ok (.aload_n 0, 1) := by decide +kernel
theorem dX9_init_26 : decode cX9_init 26 = .ok (.iconst 0, 1) := by decide +kernel
theorem dX9_init_27 : decode cX9_init 27 = .ok (.putfield 23, 3) := by decide +kernel
theorem dX9_init_30 : decode cX9_init 30 = .ok (.aload_n 0, 1) := by decide +kernel
theorem dX9_init_31 : decode cX9_init 31 = .ok (.aload_n 1, 1) := by decide +kernel
theorem dX9_init_32 : decode cX9_init 32 = .ok (.putfield 26, 3) := by decide +kernel
theorem dX9_init_35 : decode cX9_init 35 = .ok (.return_, 1) := by decide +kernel
abbrev rmX9_init : Room := { frames := 1, cells := 2, slots := 121, locals := 40 }
noncomputable def fX9_init (σ : St) (h : Nat) (x0 : Nat) (x1 : Nat) : Option St :=
xlet (xu σ (h + 0) (.inl (1, 61, .inr (.inl (fun _ => 0))))) fun σ7_5 =>
(wrF σ7_5 x0 9 1 (.ref (h + 0))).bind fun σ9_6 =>
xlet (xu σ9_6 (h + 1) (.inl (0, 60, .inl (fun _ => 0)))) fun σ15_9 =>
(wrF σ15_9 x0 9 2 (.ref (h + 1))).bind fun σ17_10 =>
(wrF σ17_10 x0 9 3 (.int (0))).bind fun σ22_13 =>
(wrF σ22_13 x0 9 4 (.int (0))).bind fun σ27_16 =>
(wrF σ27_16 x0 9 0 (.ref (x1))).bind fun σ32_19 =>
some σ32_19
set_option maxHeartbeats 4000000 in
set_option maxRecDepth 100000 in
theorem cX9_initc {l : Launch} {G : xG} {A : Nat → Prop} {σ : St} {h : Nat} {x0 : Nat} {x1 : Nat} {c : St} (hf : fX9_init σ h x0 x1 = some c) : ConA l yX9_init (xws yX9_init cX9_init 2 none) rmX9_init 2 121 [.ref (x0), .ref (x1)] G A σ h c := by
  refine a_start rfl rfl (Nat.le_of_ble_eq_true rfl) (fun X _ _ _ C O hE0 => ?_)
  have hE : ∀ r, c = r → aE X 2 121 (h + 2) r := fun r e => e ▸ hE0
  show V X (0, 0) σ 0 [(0, .ref (x0)), (1, .ref (x1))] []
  unfold fX9_init at hf
  refine x_aload_n C dX9_init_0 1 rfl 0 rfl rfl ?_
  refine a_obj C dX9_init_1 4 rfl w311 objw ⟨Nat.le_of_ble_eq_true rfl, Nat.le_of_ble_eq_true rfl⟩ ?_
  refine x_aload_n C dX9_init_4 5 rfl 0 rfl rfl ?_
  refine x_bipush C dX9_init_5 7 rfl 61 (by decide) ?_
  obtain ⟨σ7_5, eσ7_5, hf⟩ := xlet_some hf
  refine a_newL C O dX9_init_7 9 rfl w233 (by decide) (N := 61) (by decide) (Nat.le_of_ble_eq_true rfl) (h + 0) rfl ⟨Nat.le_of_ble_eq_true rfl, Nat.le_of_ble_eq_true rfl⟩ eσ7_5 (1, 61) rfl ?_
  obtain ⟨σ9_6, hσ9_6, hf⟩ := x_bind hf
  refine a_putF C O dX9_init_9 12 rfl hσ9_6 cl9 rfl w313 rfl rfl rfl rfl ?_
  refine x_aload_n C dX9_init_12 13 rfl 0 rfl rfl ?_
  refine x_bipush C dX9_init_13 15 rfl 60 (by decide) ?_
  obtain ⟨σ15_9, eσ15_9, hf⟩ := xlet_some hf
  refine a_newI C O dX9_init_15 17 rfl w232 (by decide) (N := 60) (by decide) (Nat.le_of_ble_eq_true rfl) (h + 1) rfl ⟨Nat.le_of_ble_eq_true rfl, Nat.le_of_ble_eq_true rfl⟩ eσ15_9 (2, 121) rfl ?_
  obtain ⟨σ17_10, hσ17_10, hf⟩ := x_bind hf
  refine a_putF C O dX9_init_17 20 rfl hσ17_10 cl9 rfl w314 rfl rfl rfl rfl ?_
  refine x_aload_n C dX9_init_20 21 rfl 0 rfl rfl ?_
  refine x_iconst C dX9_init_21 22 rfl 0 (by decide) ?_
  obtain ⟨σ22_13, hσ22_13, hf⟩ := x_bind hf
  refine x_putX C dX9_init_22 25 rfl hσ22_13 cl9 rfl w316 rfl rfl rfl ?_
  refine x_aload_n C dX9_init_25 26 rfl 0 rfl rfl ?_
  refine x_iconst C dX9_init_26 27 rfl 0 (by decide) ?_
  obtain ⟨σ27_16, hσ27_16, hf⟩ := x_bind hf
  refine x_putX C dX9_init_27 30 rfl hσ27_16 cl9 rfl w318 rfl rfl rfl ?_
  refine x_aload_n C dX9_init_30 31 rfl 0 rfl rfl ?_
  refine x_aload_n C dX9_init_31 32 rfl 1 rfl rfl ?_
  obtain ⟨σ32_19, hσ32_19, hf⟩ := x_bind hf
  refine a_putF C O dX9_init_32 35 rfl hσ32_19 cl9 rfl w312 rfl rfl rfl rfl ?_
  exact a_vret C O (hE _ (Option.some.inj hf).symm) rfl dX9_init_35
theorem dX5_init_0 : decode cX5_init 0 = .ok (.aload_n 0, 1) := by decide +kernel
theorem dX5_init_1 : decode cX5_init 1 = .ok (.invokespecial 3, 3) := by decide +kernel
theorem dX5_init_4 : decode cX5_init 4 = .ok (.aload_n 0, 1) := by decide +kernel
theorem dX5_init_5 : decode cX5_init 5 = .ok (.sipush 2304, 3) := by decide +kernel
theorem dX5_init_8 : decode cX5_init 8 = .ok (.newarray .long, 2) := by decide +kernel
theorem dX5_init_10 : decode cX5_init 10 = .ok (.putfield 11, 3) := by decide +kernel
theorem dX5_init_13 : decode cX5_init 13 = .ok (.aload_n 0, 1) := by decide +kernel
theorem dX5_init_14 : decode cX5_init 14 = .ok (.sipush 2304, 3) := by decide +kernel
theorem dX5_init_17 : decode cX5_init 17 = .ok (.newarray .int, 2) := by decide +kernel
theorem dX5_init_19 : decode cX5_init 19 = .ok (.putfield 15, 3) := by decide +kernel
theorem dX5_init_22 : decode cX5_init 22 = .ok (.aload_n 0, 1) := by decide +kernel
theorem dX5_init_23 : decode cX5_init 23 = .ok (.sipush 2304, 3) := by decide +kernel
theorem dX5_init_26 : decode cX5_init 26 = .ok (.newarray .byte, 2) := by decide +kernel
theorem dX5_init_28 : decode cX5_init 28 = .ok (.putfield 19, 3) := by decide +kernel
theorem dX5_init_31 : decode cX5_init 31 = .ok (.aload_n 0, 1) := by decide +kernel
theorem dX5_init_32 : decode cX5_init 32 = .ok (.iconst 0, 1) := by decide +kernel
theorem dX5_init_33 : decode cX5_init 33 = .ok (.putfield 23, 3) := by decide +kernel
theorem dX5_init_36 : decode cX5_init 36 = .ok (.aload_n 0, 1) := by decide +kernel
theorem dX5_init_37 : decode cX5_init 37 = .ok (.iconst 0, 1) := by decide +kernel
theorem dX5_init_38 : decode cX5_init 38 = .ok (.putfield 27, 3) := by decide +kernel
theorem dX5_init_41 : decode cX5_init 41 = .ok (.aload_n 0, 1) := by decide +kernel
theorem dX5_init_42 : decode cX5_init 42 = .ok (.aload_n 1, 1) := by decide +kernel
theorem dX5_init_43 : decode cX5_init 43 = .ok (.putfield 30, 3) := by decide +kernel
theorem dX5_init_46 : decode cX5_init 46 = .ok (.aload_n 0, 1) := by decide +kernel
theorem dX5_init_47 : decode cX5_init 47 = .ok (.aload_n 2, 1) := by decide +kernel
theorem dX5_init_48 : decode cX5_init 48 = .ok (.putfield 34, 3) := by decide +kernel
theorem dX5_init_51 : decode cX5_init 51 = .ok (.return_, 1) := by decide +kernel
abbrev rmX5_init : Room := { frames := 1, cells := 3, slots := 6912, locals := 40 }
noncomputable def fX5_init (σ : St) (h : Nat) (x0 : Nat) (x1 : Nat) (x2 : Nat) : Option St :=
xlet (xu σ (h + 0) (.inl (1, 2304, .inr (.inl (fun _ => 0))))) fun σ8_5 =>
(wrF σ8_5 x0 5 2 (.ref (h + 0))).bind fun σ10_6 =>
xlet (xu σ10_6 (h + 1) (.inl (0, 2304, .inl (fun _ => 0)))) fun σ17_9 =>
(wrF σ17_9 x0 5 3 (.ref (h + 1))).bind fun σ19_10 =>
xlet (xu σ19_10 (h + 2) (.inl (2, 2304, .inl (fun _ => 0)))) fun σ26_13 =>
(wrF σ26_13 x0 5 4 (.ref (h + 2))).bind fun σ28_14 =>
(wrF σ28_14 x0 5 5 (.int (0))).bind fun σ33_17 =>
(wrF σ33_17 x0 5 6 (.int (0))).bind fun σ38_20 =>
(wrF σ38_20 x0 5 0 (.ref (x1))).bind fun σ43_23 =>
(wrF σ43_23 x0 5 1 (.ref (x2))).bind fun σ48_26 =>
some σ48_26
set_option maxHeartbeats 4000000 in
set_option maxRecDepth 100000 in
theorem cX5_initc {l : Launch} {G : xG} {A : Nat → Prop} {σ : St} {h : Nat} {x0 : Nat} {x1 : Nat} {x2 : Nat} {c : St} (hf : fX5_init σ h x0 x1 x2 = some c) : ConA l yX5_init (xws yX5_init cX5_init 3 none) rmX5_init 3 6912 [.ref (x0), .ref (x1), .ref (x2)] G A σ h c := by
  refine a_start rfl rfl (Nat.le_of_ble_eq_true rfl) (fun X _ _ _ C O hE0 => ?_)
  have hE : ∀ r, c = r → aE X 3 6912 (h + 3) r := fun r e => e ▸ hE0
  show V X (0, 0) σ 0 [(0, .ref (x0)), (1, .ref (x1)), (2, .ref (x2))] []
  unfold fX5_init at hf
  refine x_aload_n C dX5_init_0 1 rfl 0 rfl rfl ?_
  refine a_obj C dX5_init_1 4 rfl w336 objw ⟨Nat.le_of_ble_eq_true rfl, Nat.le_of_ble_eq_true rfl⟩ ?_
  refine x_aload_n C dX5_init_4 5 rfl 0 rfl rfl ?_
  refine x_sipush C dX5_init_5 8 rfl 2304 (by decide) ?_
  obtain ⟨σ8_5, eσ8_5, hf⟩ := xlet_some hf
  refine a_newL C O dX5_init_8 10 rfl w233 (by decide) (N := 2304) (by decide) (Nat.le_of_ble_eq_true rfl) (h + 0) rfl ⟨Nat.le_of_ble_eq_true rfl, Nat.le_of_ble_eq_true rfl⟩ eσ8_5 (1, 2304) rfl ?_
  obtain ⟨σ10_6, hσ10_6, hf⟩ := x_bind hf
  refine a_putF C O dX5_init_10 13 rfl hσ10_6 cl5 rfl w339 rfl rfl rfl rfl ?_
  refine x_aload_n C dX5_init_13 14 rfl 0 rfl rfl ?_
  refine x_sipush C dX5_init_14 17 rfl 2304 (by decide) ?_
  obtain ⟨σ17_9, eσ17_9, hf⟩ := xlet_some hf
  refine a_newI C O dX5_init_17 19 rfl w232 (by decide) (N := 2304) (by decide) (Nat.le_of_ble_eq_true rfl) (h + 1) rfl ⟨Nat.le_of_ble_eq_true rfl, Nat.le_of_ble_eq_true rfl⟩ eσ17_9 (2, 4608) rfl ?_
  obtain ⟨σ19_10, hσ19_10, hf⟩ := x_bind hf
  refine a_putF C O dX5_init_19 22 rfl hσ19_10 cl5 rfl w341 rfl rfl rfl rfl ?_
  refine x_aload_n C dX5_init_22 23 rfl 0 rfl rfl ?_
  refine x_sipush C dX5_init_23 26 rfl 2304 (by decide) ?_
  obtain ⟨σ26_13, eσ26_13, hf⟩ := xlet_some hf
  refine a_newB C O dX5_init_26 28 rfl w361 (by decide) (N := 2304) (by decide) (Nat.le_of_ble_eq_true rfl) (h + 2) rfl ⟨Nat.le_of_ble_eq_true rfl, Nat.le_of_ble_eq_true rfl⟩ eσ26_13 (3, 6912) rfl ?_
  obtain ⟨σ28_14, hσ28_14, hf⟩ := x_bind hf
  refine a_putF C O dX5_init_28 31 rfl hσ28_14 cl5 rfl w342 rfl rfl rfl rfl ?_
  refine x_aload_n C dX5_init_31 32 rfl 0 rfl rfl ?_
  refine x_iconst C dX5_init_32 33 rfl 0 (by decide) ?_
  obtain ⟨σ33_17, hσ33_17, hf⟩ := x_bind hf
  refine x_putX C dX5_init_33 36 rfl hσ33_17 cl5 rfl w343 rfl rfl rfl ?_
  refine x_aload_n C dX5_init_36 37 rfl 0 rfl rfl ?_
  refine x_iconst C dX5_init_37 38 rfl 0 (by decide) ?_
  obtain ⟨σ38_20, hσ38_20, hf⟩ := x_bind hf
  refine x_putX C dX5_init_38 41 rfl hσ38_20 cl5 rfl w345 rfl rfl rfl ?_
  refine x_aload_n C dX5_init_41 42 rfl 0 rfl rfl ?_
  refine x_aload_n C dX5_init_42 43 rfl 1 rfl rfl ?_
  obtain ⟨σ43_23, hσ43_23, hf⟩ := x_bind hf
  refine a_putF C O dX5_init_43 46 rfl hσ43_23 cl5 rfl w337 rfl rfl rfl rfl ?_
  refine x_aload_n C dX5_init_46 47 rfl 0 rfl rfl ?_
  refine x_aload_n C dX5_init_47 48 rfl 2 rfl rfl ?_
  obtain ⟨σ48_26, hσ48_26, hf⟩ := x_bind hf
  refine a_putF C O dX5_init_48 51 rfl hσ48_26 cl5 rfl w338 rfl rfl rfl rfl ?_
  exact a_vret C O (hE _ (Option.some.inj hf).symm) rfl dX5_init_51
theorem dX6_init_0 : decode cX6_init 0 = .ok (.aload_n 0, 1) := by decide +kernel
theorem dX6_init_1 : decode cX6_init 1 = .ok (.invokespecial 3, 3) := by decide +kernel
theorem dX6_init_4 : decode cX6_init 4 = .ok (.aload_n 0, 1) := by decide +kernel
theorem dX6_init_5 : decode cX6_init 5 = .ok (.sipush 200, 3) := by decide +kernel
theorem dX6_init_8 : decode cX6_init 8 = .ok (.newarray .long, 2) := by decide +kernel
theorem dX6_init_10 : decode cX6_init 10 = .ok (.putfield 11, 3) := by decide +kernel
theorem dX6_init_13 : decode cX6_init 13 = .ok (.aload_n 0, 1) := by decide +kernel
theorem dX6_init_14 : decode cX6_init 14 = .ok (.sipush 200, 3) := by decide +kernel
theorem dX6_init_17 : decode cX6_init 17 = .ok (.newarray .int, 2) := by decide +kernel
theorem dX6_init_19 : decode cX6_init 19 = .ok (.putfield 15, 3) := by decide +kernel
theorem dX6_init_22 : decode cX6_init 22 = .ok (.aload_n 0, 1) := by decide +kernel
theorem dX6_init_23 : decode cX6_init 23 = .ok (.iconst 0, 1) := by decide +kernel
theorem dX6_init_24 : decode cX6_init 24 = .ok (.putfield 19, 3) := by decide +kernel
theorem dX6_init_27 : decode cX6_init 27 = .ok (.aload_n 0, 1) := by decide +kernel
theorem dX6_init_28 : decode cX6_init 28 = .ok (.iconst 0, 1) := by decide +kernel
theorem dX6_init_29 : decode cX6_init 29 = .ok (.putfield 23, 3) := by decide +kernel
theorem dX6_init_32 : decode cX6_init 32 = .ok (.aload_n 0, 1) := by decide +kernel
theorem dX6_init_33 : decode cX6_init 33 = .ok (.iconst (-1), 1) := by decide +kernel
theorem dX6_init_34 : decode cX6_init 34 = .ok (.putfield 26, 3) := by decide +kernel
theorem dX6_init_37 : decode cX6_init 37 = .ok (.aload_n 0, 1) := by decide +kernel
theorem dX6_init_38 : decode cX6_init 38 = .ok (.iconst (-1), 1) := by decide +kernel
theorem dX6_init_39 : decode cX6_init 39 = .ok (.putfield 29, 3) := by decide +kernel
theorem dX6_init_42 : decode cX6_init 42 = .ok (.aload_n 0, 1) := by decide +kernel
theorem dX6_init_43 : decode cX6_init 43 = .ok (.sipush 512, 3) := by decide +kernel
theorem dX6_init_46 : decode cX6_init 46 = .ok (.newarray .int, 2) := by decide +kernel
theorem dX6_init_48 : decode cX6_init 48 = .ok (.putfield 32, 3) := by decide +kernel
theorem dX6_init_51 : decode cX6_init 51 = .ok (.aload_n 0, 1) := by decide +kernel
theorem dX6_init_52 : decode cX6_init 52 = .ok (.iconst 0, 1) := by decide +kernel
theorem dX6_init_53 : decode cX6_init 53 = .ok (.putfield 35, 3) := by decide +kernel
theorem dX6_init_56 : decode cX6_init 56 = .ok (.aload_n 0, 1) := by decide +kernel
theorem dX6_init_57 : decode cX6_init 57 = .ok (.aload_n 1, 1) := by decide +kernel
theorem dX6_init_58 : decode cX6_init 58 = .ok (.putfield 38, 3) := by decide +kernel
theorem dX6_init_61 : decode cX6_init 61 = .ok (.aload_n 0, 1) := by decide +kernel
theorem dX6_init_62 : decode cX6_init 62 = .ok (.iload_n 2, 1) := by decide +kernel
theorem dX6_init_63 : decode cX6_init 63 = .ok (.putfield 42, 3) := by decide +kernel
theorem dX6_init_66 : decode cX6_init 66 = .ok (.return_, 1) := by decide +kernel
abbrev rmX6_init : Room := { frames := 1, cells := 3, slots := 912, locals := 40 }
noncomputable def fX6_init (σ : St) (h : Nat) (x0 : Nat) (x1 : Nat) (x2 : Int32) : Option St :=
xlet (xu σ (h + 0) (.inl (1, 200, .inr (.inl (fun _ => 0))))) fun σ8_5 =>
(wrF σ8_5 x0 6 2 (.ref (h + 0))).bind fun σ10_6 =>
xlet (xu σ10_6 (h + 1) (.inl (0, 200, .inl (fun _ => 0)))) fun σ17_9 =>
(wrF σ17_9 x0 6 3 (.ref (h + 1))).bind fun σ19_10 =>
(wrF σ19_10 x0 6 4 (.int (0))).bind fun σ24_13 =>
(wrF σ24_13 x0 6 5 (.int (0))).bind fun σ29_16 =>
(wrF σ29_16 x0 6 6 (.int ((-1)))).bind fun σ34_19 =>
(wrF σ34_19 x0 6 7 (.int ((-1)))).bind fun σ39_22 =>
xlet (xu σ39_22 (h + 2) (.inl (0, 512, .inl (fun _ => 0)))) fun σ46_25 =>
(wrF σ46_25 x0 6 8 (.ref (h + 2))).bind fun σ48_26 =>
(wrF σ48_26 x0 6 9 (.int (0))).bind fun σ53_29 =>
(wrF σ53_29 x0 6 0 (.ref (x1))).bind fun σ58_32 =>
(zok x2).bind fun z63_35 =>
(wrF σ58_32 x0 6 1 (.int (z63_35))).bind fun σ63_35 =>
some σ63_35
set_option maxHeartbeats 4000000 in
set_option maxRecDepth 100000 in
theorem cX6_initc {l : Launch} {G : xG} {A : Nat → Prop} {σ : St} {h : Nat} {x0 : Nat} {x1 : Nat} {x2 : Int32} {c : St} (hf : fX6_init σ h x0 x1 x2 = some c) : ConA l yX6_init (xws yX6_init cX6_init 3 none) rmX6_init 3 912 [.ref (x0), .ref (x1), .int (x2)] G A σ h c := by
  refine a_start rfl rfl (Nat.le_of_ble_eq_true rfl) (fun X _ _ _ C O hE0 => ?_)
  have hE : ∀ r, c = r → aE X 3 912 (h + 3) r := fun r e => e ▸ hE0
  show V X (0, 0) σ 0 [(0, .ref (x0)), (1, .ref (x1)), (2, .int (x2))] []
  unfold fX6_init at hf
  refine x_aload_n C dX6_init_0 1 rfl 0 rfl rfl ?_
  refine a_obj C dX6_init_1 4 rfl w367 objw ⟨Nat.le_of_ble_eq_true rfl, Nat.le_of_ble_eq_true rfl⟩ ?_
  refine x_aload_n C dX6_init_4 5 rfl 0 rfl rfl ?_
  refine x_sipush C dX6_init_5 8 rfl 200 (by decide) ?_
  obtain ⟨σ8_5, eσ8_5, hf⟩ := xlet_some hf
  refine a_newL C O dX6_init_8 10 rfl w233 (by decide) (N := 200) (by decide) (Nat.le_of_ble_eq_true rfl) (h + 0) rfl ⟨Nat.le_of_ble_eq_true rfl, Nat.le_of_ble_eq_true rfl⟩ eσ8_5 (1, 200) rfl ?_
  obtain ⟨σ10_6, hσ10_6, hf⟩ := x_bind hf
  refine a_putF C O dX6_init_10 13 rfl hσ10_6 cl6 rfl w370 rfl rfl rfl rfl ?_
  refine x_aload_n C dX6_init_13 14 rfl 0 rfl rfl ?_
  refine x_sipush C dX6_init_14 17 rfl 200 (by decide) ?_
  obtain ⟨σ17_9, eσ17_9, hf⟩ := xlet_some hf
  refine a_newI C O dX6_init_17 19 rfl w232 (by decide) (N := 200) (by decide) (Nat.le_of_ble_eq_true rfl) (h + 1) rfl ⟨Nat.le_of_ble_eq_true rfl, Nat.le_of_ble_eq_true rfl⟩ eσ17_9 (2, 400) rfl ?_
  obtain ⟨σ19_10, hσ19_10, hf⟩ := x_bind hf
  refine a_putF C O dX6_init_19 22 rfl hσ19_10 cl6 rfl w372 rfl rfl rfl rfl ?_
  refine x_aload_n C dX6_init_22 23 rfl 0 rfl rfl ?_
  refine x_iconst C dX6_init_23 24 rfl 0 (by decide) ?_
  obtain ⟨σ24_13, hσ24_13, hf⟩ := x_bind hf
  refine x_putX C dX6_init_24 27 rfl hσ24_13 cl6 rfl w374 rfl rfl rfl ?_
  refine x_aload_n C dX6_init_27 28 rfl 0 rfl rfl ?_
  refine x_iconst C dX6_init_28 29 rfl 0 (by decide) ?_
  obtain ⟨σ29_16, hσ29_16, hf⟩ := x_bind hf
  refine x_putX C dX6_init_29 32 rfl hσ29_16 cl6 rfl w376 rfl rfl rfl ?_
  refine x_aload_n C dX6_init_32 33 rfl 0 rfl rfl ?_
  refine x_iconst C dX6_init_33 34 rfl (-1) (by decide) ?_
  obtain ⟨σ34_19, hσ34_19, hf⟩ := x_bind hf
  refine x_putX C dX6_init_34 37 rfl hσ34_19 cl6 rfl w378 rfl rfl rfl ?_
  refine x_aload_n C dX6_init_37 38 rfl 0 rfl rfl ?_
  refine x_iconst C dX6_init_38 39 rfl (-1) (by decide) ?_
  obtain ⟨σ39_22, hσ39_22, hf⟩ := x_bind hf
  refine x_putX C dX6_init_39 42 rfl hσ39_22 cl6 rfl w380 rfl rfl rfl ?_
  refine x_aload_n C dX6_init_42 43 rfl 0 rfl rfl ?_
  refine x_sipush C dX6_init_43 46 rfl 512 (by decide) ?_
  obtain ⟨σ46_25, eσ46_25, hf⟩ := xlet_some hf
  refine a_newI C O dX6_init_46 48 rfl w232 (by decide) (N := 512) (by decide) (Nat.le_of_ble_eq_true rfl) (h + 2) rfl ⟨Nat.le_of_ble_eq_true rfl, Nat.le_of_ble_eq_true rfl⟩ eσ46_25 (3, 912) rfl ?_
  obtain ⟨σ48_26, hσ48_26, hf⟩ := x_bind hf
  refine a_putF C O dX6_init_48 51 rfl hσ48_26 cl6 rfl w382 rfl rfl rfl rfl ?_
  refine x_aload_n C dX6_init_51 52 rfl 0 rfl rfl ?_
  refine x_iconst C dX6_init_52 53 rfl 0 (by decide) ?_
  obtain ⟨σ53_29, hσ53_29, hf⟩ := x_bind hf
  refine x_putX C dX6_init_53 56 rfl hσ53_29 cl6 rfl w383 rfl rfl rfl ?_
  refine x_aload_n C dX6_init_56 57 rfl 0 rfl rfl ?_
  refine x_aload_n C dX6_init_57 58 rfl 1 rfl rfl ?_
  obtain ⟨σ58_32, hσ58_32, hf⟩ := x_bind hf
  refine a_putF C O dX6_init_58 61 rfl hσ58_32 cl6 rfl w368 rfl rfl rfl rfl ?_
  refine x_aload_n C dX6_init_61 62 rfl 0 rfl rfl ?_
  refine x_iload_n C dX6_init_62 63 rfl 2 rfl rfl ?_
  obtain ⟨z63_35, hz63_35, hf⟩ := x_bind hf
  refine x_topi (zok_nar hz63_35).1 ?_
  obtain ⟨σ63_35, hσ63_35, hf⟩ := x_bind hf
  refine a_putF C O dX6_init_63 66 rfl hσ63_35 cl6 rfl w369 rfl rfl (zok_w hz63_35) (zok_f hz63_35) ?_
  exact a_vret C O (hE _ (Option.some.inj hf).symm) rfl dX6_init_66
theorem dX1_init_0 : decode cX1_init 0 = .ok (.aload_n 0, 1) := by decide +kernel
theorem dX1_init_1 : decode cX1_init 1 = .ok (.invokespecial 3, 3) := by decide +kernel
theorem dX1_init_4 : decode cX1_init 4 = .ok (.aload_n 0, 1) := by decide +kernel
theorem dX1_init_5 : decode cX1_init 5 = .ok (.bipush 85, 2) := by decide +kernel
theorem dX1_init_7 : decode cX1_init 7 = .ok (.newarray .long, 2) := by decide +kernel
theorem dX1_init_9 : decode cX1_init 9 = .ok (.putfield 11, 3) := by decide +kernel
theorem dX1_init_12 : decode cX1_init 12 = .ok (.aload_n 0, 1) := by decide +kernel
theorem dX1_init_13 : decode cX1_init 13 = .ok (.iconst 0, 1) := by decide +kernel
theorem dX1_init_14 : decode cX1_init 14 = .ok (.putfield 15, 3) := by decide +kernel
theorem dX1_init_17 : decode cX1_init 17 = .ok (.aload_n 0, 1) := by decide +kernel
theorem dX1_init_18 : decode cX1_init 18 = .ok (.sipush 425, 3) := by decide +kernel
theorem dX1_init_21 : decode cX1_init 21 = .ok (.newarray .int, 2) := by decide +kernel
theorem dX1_init_23 : decode cX1_init 23 = .ok (.putfield 19, 3) := by decide +kernel
theorem dX1_init_26 : decode cX1_init 26 = .ok (.aload_n 0, 1) := by decide +kernel
theorem dX1_init_27 : decode cX1_init 27 = .ok (.bipush 85, 2) := by decide +kernel
theorem dX1_init_29 : decode cX1_init 29 = .ok (.newarray .int, 2) := by decide +kernel
theorem dX1_init_31 : decode cX1_init 31 = .ok (.putfield 23, 3) := by decide +kernel
theorem dX1_init_34 : decode cX1_init 34 = .ok (.aload_n 0, 1) := by decide +kernel
theorem dX1_init_35 : decode cX1_init 35 = .ok (.bipush 85, 2) := by decide +kernel
theorem dX1_init_37 : decode cX1_init 37 = .ok (.newarray .int, 2) := by decide +kernel
theorem dX1_init_39 : decode cX1_init 39 = .ok (.putfield 26, 3) := by decide +kernel
theorem dX1_init_42 : decode cX1_init 42 = .ok (.aload_n 0, 1) := by decide +kernel
theorem dX1_init_43 : decode cX1_init 43 = .ok (.aload_n 1, 1) := by decide +kernel
theorem dX1_init_44 : decode cX1_init 44 = .ok (.putfield 29, 3) := by decide +kernel
theorem dX1_init_47 : decode cX1_init 47 = .ok (.return_, 1) := by decide +kernel
abbrev rmX1_init : Room := { frames := 1, cells := 4, slots := 680, locals := 40 }
noncomputable def fX1_init (σ : St) (h : Nat) (x0 : Nat) (x1 : Nat) : Option St :=
xlet (xu σ (h + 0) (.inl (1, 85, .inr (.inl (fun _ => 0))))) fun σ7_5 =>
(wrF σ7_5 x0 1 1 (.ref (h + 0))).bind fun σ9_6 =>
(wrF σ9_6 x0 1 2 (.int (0))).bind fun σ14_9 =>
xlet (xu σ14_9 (h + 1) (.inl (0, 425, .inl (fun _ => 0)))) fun σ21_12 =>
(wrF σ21_12 x0 1 3 (.ref (h + 1))).bind fun σ23_13 =>
xlet (xu σ23_13 (h + 2) (.inl (0, 85, .inl (fun _ => 0)))) fun σ29_16 =>
(wrF σ29_16 x0 1 4 (.ref (h + 2))).bind fun σ31_17 =>
xlet (xu σ31_17 (h + 3) (.inl (0, 85, .inl (fun _ => 0)))) fun σ37_20 =>
(wrF σ37_20 x0 1 5 (.ref (h + 3))).bind fun σ39_21 =>
(wrF σ39_21 x0 1 0 (.ref (x1))).bind fun σ44_24 =>
some σ44_24
set_option maxHeartbeats 4000000 in
set_option maxRecDepth 100000 in
theorem cX1_initc {l : Launch} {G : xG} {A : Nat → Prop} {σ : St} {h : Nat} {x0 : Nat} {x1 : Nat} {c : St} (hf : fX1_init σ h x0 x1 = some c) : ConA l yX1_init (xws yX1_init cX1_init 2 none) rmX1_init 4 680 [.ref (x0), .ref (x1)] G A σ h c := by
  refine a_start rfl rfl (Nat.le_of_ble_eq_true rfl) (fun X _ _ _ C O hE0 => ?_)
  have hE : ∀ r, c = r → aE X 4 680 (h + 4) r := fun r e => e ▸ hE0
  show V X (0, 0) σ 0 [(0, .ref (x0)), (1, .ref (x1))] []
  unfold fX1_init at hf
  refine x_aload_n C dX1_init_0 1 rfl 0 rfl rfl ?_
  refine a_obj C dX1_init_1 4 rfl w410 objw ⟨Nat.le_of_ble_eq_true rfl, Nat.le_of_ble_eq_true rfl⟩ ?_
  refine x_aload_n C dX1_init_4 5 rfl 0 rfl rfl ?_
  refine x_bipush C dX1_init_5 7 rfl 85 (by decide) ?_
  obtain ⟨σ7_5, eσ7_5, hf⟩ := xlet_some hf
  refine a_newL C O dX1_init_7 9 rfl w233 (by decide) (N := 85) (by decide) (Nat.le_of_ble_eq_true rfl) (h + 0) rfl ⟨Nat.le_of_ble_eq_true rfl, Nat.le_of_ble_eq_true rfl⟩ eσ7_5 (1, 85) rfl ?_
  obtain ⟨σ9_6, hσ9_6, hf⟩ := x_bind hf
  refine a_putF C O dX1_init_9 12 rfl hσ9_6 cl1 rfl w412 rfl rfl rfl rfl ?_
  refine x_aload_n C dX1_init_12 13 rfl 0 rfl rfl ?_
  refine x_iconst C dX1_init_13 14 rfl 0 (by decide) ?_
  obtain ⟨σ14_9, hσ14_9, hf⟩ := x_bind hf
  refine x_putX C dX1_init_14 17 rfl hσ14_9 cl1 rfl w413 rfl rfl rfl ?_
  refine x_aload_n C dX1_init_17 18 rfl 0 rfl rfl ?_
  refine x_sipush C dX1_init_18 21 rfl 425 (by decide) ?_
  obtain ⟨σ21_12, eσ21_12, hf⟩ := xlet_some hf
  refine a_newI C O dX1_init_21 23 rfl w232 (by decide) (N := 425) (by decide) (Nat.le_of_ble_eq_true rfl) (h + 1) rfl ⟨Nat.le_of_ble_eq_true rfl, Nat.le_of_ble_eq_true rfl⟩ eσ21_12 (2, 510) rfl ?_
  obtain ⟨σ23_13, hσ23_13, hf⟩ := x_bind hf
  refine a_putF C O dX1_init_23 26 rfl hσ23_13 cl1 rfl w414 rfl rfl rfl rfl ?_
  refine x_aload_n C dX1_init_26 27 rfl 0 rfl rfl ?_
  refine x_bipush C dX1_init_27 29 rfl 85 (by decide) ?_
  obtain ⟨σ29_16, eσ29_16, hf⟩ := xlet_some hf
  refine a_newI C O dX1_init_29 31 rfl w232 (by decide) (N := 85) (by decide) (Nat.le_of_ble_eq_true rfl) (h + 2) rfl ⟨Nat.le_of_ble_eq_true rfl, Nat.le_of_ble_eq_true rfl⟩ eσ29_16 (3, 595) rfl ?_
  obtain ⟨σ31_17, hσ31_17, hf⟩ := x_bind hf
  refine x_putX C dX1_init_31 34 rfl hσ31_17 cl1 rfl w415 rfl rfl rfl ?_
  refine x_aload_n C dX1_init_34 35 rfl 0 rfl rfl ?_
  refine x_bipush C dX1_init_35 37 rfl 85 (by decide) ?_
  obtain ⟨σ37_20, eσ37_20, hf⟩ := xlet_some hf
  refine a_newI C O dX1_init_37 39 rfl w232 (by decide) (N := 85) (by decide) (Nat.le_of_ble_eq_true rfl) (h + 3) rfl ⟨Nat.le_of_ble_eq_true rfl, Nat.le_of_ble_eq_true rfl⟩ eσ37_20 (4, 680) rfl ?_
  obtain ⟨σ39_21, hσ39_21, hf⟩ := x_bind hf
  refine x_putX C dX1_init_39 42 rfl hσ39_21 cl1 rfl w416 rfl rfl rfl ?_
  refine x_aload_n C dX1_init_42 43 rfl 0 rfl rfl ?_
  refine x_aload_n C dX1_init_43 44 rfl 1 rfl rfl ?_
  obtain ⟨σ44_24, hσ44_24, hf⟩ := x_bind hf
  refine a_putF C O dX1_init_44 47 rfl hσ44_24 cl1 rfl w411 rfl rfl rfl rfl ?_
  exact a_vret C O (hE _ (Option.some.inj hf).symm) rfl dX1_init_47
theorem dX4_init_0 : decode cX4_init 0 = .ok (.aload_n 0, 1) := by decide +kernel
theorem dX4_init_1 : decode cX4_init 1 = .ok (.invokespecial 3, 3) := by decide +kernel
theorem dX4_init_4 : decode cX4_init 4 = .ok (.aload_n 0, 1) := by decide +kernel
theorem dX4_init_5 : decode cX4_init 5 = .ok (.iconst 5, 1) := by decide +kernel
theorem dX4_init_6 : decode cX4_init 6 = .ok (.newarray .int, 2) := by decide +kernel
theorem dX4_init_8 : decode cX4_init 8 = .ok (.putfield 9, 3) := by decide +kernel
theorem dX4_init_11 : decode cX4_init 11 = .ok (.aload_n 0, 1) := by decide +kernel
theorem dX4_init_12 : decode cX4_init 12 = .ok (.iconst 0, 1) := by decide +kernel
theorem dX4_init_13 : decode cX4_init 13 = .ok (.putfield 15, 3) := by decide +kernel
theorem dX4_init_16 : decode cX4_init 16 = .ok (.aload_n 0, 1) := by decide +kernel
theorem dX4_init_17 : decode cX4_init 17 = .ok (.lconst 0, 1) := by decide +kernel
theorem dX4_init_18 : decode cX4_init 18 = .ok (.putfield 19, 3) := by decide +kernel
theorem dX4_init_21 : decode cX4_init 21 = .ok (.aload_n 0, 1) := by decide +kernel
theorem dX4_init_22 : decode cX4_init 22 = .ok (.lconst 0, 1) := by decide +kernel
theorem dX4_init_23 : decode cX4_init 23 = .ok (.putfield 23, 3) := by decide +kernel
theorem dX4_init_26 : decode cX4_init 26 = .ok (.return_, 1) := by decide +kernel
abbrev rmX4_init : Room := { frames := 1, cells := 1, slots := 5, locals := 40 }
noncomputable def fX4_init (σ : St) (h : Nat) (x0 : Nat) : Option St :=
xlet (xu σ (h + 0) (.inl (0, 5, .inl (fun _ => 0)))) fun σ6_5 =>
(wrF σ6_5 x0 4 0 (.ref (h + 0))).bind fun σ8_6 =>
(wrF σ8_6 x0 4 1 (.int (0))).bind fun σ13_9 =>
(wrF σ13_9 x0 4 2 (.long (0))).bind fun σ18_12 =>
(wrF σ18_12 x0 4 3 (.long (0))).bind fun σ23_15 =>
some σ23_15
set_option maxHeartbeats 4000000 in
set_option maxRecDepth 100000 in
theorem cX4_initc {l : Launch} {G : xG} {A : Nat → Prop} {σ : St} {h : Nat} {x0 : Nat} {c : St} (hf : fX4_init σ h x0 = some c) : ConA l yX4_init (xws yX4_init cX4_init 1 none) rmX4_init 1 5 [.ref (x0)] G A σ h c := by
  refine a_start rfl rfl (Nat.le_of_ble_eq_true rfl) (fun X _ _ _ C O hE0 => ?_)
  have hE : ∀ r, c = r → aE X 1 5 (h + 1) r := fun r e => e ▸ hE0
  show V X (0, 0) σ 0 [(0, .ref (x0))] []
  unfold fX4_init at hf
  refine x_aload_n C dX4_init_0 1 rfl 0 rfl rfl ?_
  refine a_obj C dX4_init_1 4 rfl w435 objw ⟨Nat.le_of_ble_eq_true rfl, Nat.le_of_ble_eq_true rfl⟩ ?_
  refine x_aload_n C dX4_init_4 5 rfl 0 rfl rfl ?_
  refine x_iconst C dX4_init_5 6 rfl 5 (by decide) ?_
  obtain ⟨σ6_5, eσ6_5, hf⟩ := xlet_some hf
  refine a_newI C O dX4_init_6 8 rfl w232 (by decide) (N := 5) (by decide) (Nat.le_of_ble_eq_true rfl) (h + 0) rfl ⟨Nat.le_of_ble_eq_true rfl, Nat.le_of_ble_eq_true rfl⟩ eσ6_5 (1, 5) rfl ?_
  obtain ⟨σ8_6, hσ8_6, hf⟩ := x_bind hf
  refine a_putF C O dX4_init_8 11 rfl hσ8_6 cl4 rfl w436 rfl rfl rfl rfl ?_
  refine x_aload_n C dX4_init_11 12 rfl 0 rfl rfl ?_
  refine x_iconst C dX4_init_12 13 rfl 0 (by decide) ?_
  obtain ⟨σ13_9, hσ13_9, hf⟩ := x_bind hf
  refine x_putX C dX4_init_13 16 rfl hσ13_9 cl4 rfl w437 rfl rfl rfl ?_
  refine x_aload_n C dX4_init_16 17 rfl 0 rfl rfl ?_
  refine x_lconst C dX4_init_17 18 rfl 0 (by decide) ?_
  obtain ⟨σ18_12, hσ18_12, hf⟩ := x_bind hf
  refine x_putX C dX4_init_18 21 rfl hσ18_12 cl4 rfl w438 rfl rfl rfl ?_
  refine x_aload_n C dX4_init_21 22 rfl 0 rfl rfl ?_
  refine x_lconst C dX4_init_22 23 rfl 0 (by decide) ?_
  obtain ⟨σ23_15, hσ23_15, hf⟩ := x_bind hf
  refine x_putX C dX4_init_23 26 rfl hσ23_15 cl4 rfl w440 rfl rfl rfl ?_
  exact a_vret C O (hE _ (Option.some.inj hf).symm) rfl dX4_init_26
theorem dX3_init_0 : decode cX3_init 0 = .ok (.aload_n 0, 1) := by decide +kernel
theorem dX3_init_1 : decode cX3_init 1 = .ok (.invokespecial 3, 3) := by decide +kernel
theorem dX3_init_4 : decode cX3_init 4 = .ok (.aload_n 0, 1) := by decide +kernel
theorem dX3_init_5 : decode cX3_init 5 = .ok (.iconst 0, 1) := by decide +kernel
theorem dX3_init_6 : decode cX3_init 6 = .ok (.putfield 9, 3) := by decide +kernel
theorem dX3_init_9 : decode cX3_init 9 = .ok (.aload_n 0, 1) := by decide +kernel
theorem dX3_init_10 : decode cX3_init 10 = .ok (.iconst 0, 1) := by decide +kernel
theorem dX3_init_11 : decode cX3_init 11 = .ok (.putfield 15, 3) := by decide +kernel
theorem dX3_init_14 : decode cX3_init 14 = .ok (.aload_n 0, 1) := by decide +kernel
theorem dX3_init_15 : decode cX3_init 15 = .ok (.sipush 656, 3) := by decide +kernel
theorem dX3_init_18 : decode cX3_init 18 = .ok (.newarray .int, 2) := by decide +kernel
theorem dX3_init_20 : decode cX3_init 20 = .ok (.putfield 18, 3) := by decide +kernel
theorem dX3_init_23 : decode cX3_init 23 = .ok (.aload_n 0, 1) := by decide +kernel
theorem dX3_init_24 : decode cX3_init 24 = .ok (.iconst 0, 1) := by decide +kernel
theorem dX3_init_25 : decode cX3_init 25 = .ok (.putfield 22, 3) := by decide +kernel
theorem dX3_init_28 : decode cX3_init 28 = .ok (.aload_n 0, 1) := by decide +kernel
theorem dX3_init_29 : decode cX3_init 29 = .ok (.iconst 0, 1) := by decide +kernel
theorem dX3_init_30 : decode cX3_init 30 = .ok (.putfield 25, 3) := by decide +kernel
theorem dX3_init_33 : decode cX3_init 33 = .ok (.aload_n 0, 1) := by decide +kernel
theorem dX3_init_34 : decode cX3_init 34 = .ok (.sipush 656, 3) := by decide +kernel
theorem dX3_init_37 : decode cX3_init 37 = .ok (.newarray .int, 2) := by decide +kernel
theorem dX3_init_39 : decode cX3_init 39 = .ok (.putfield 28, 3) := by decide +kernel
theorem dX3_init_42 : decode cX3_init 42 = .ok (.aload_n 0, 1) := by decide +kernel
theorem dX3_init_43 : decode cX3_init 43 = .ok (.sipush 656, 3) := by decide +kernel
theorem dX3_init_46 : decode cX3_init 46 = .ok (.newarray .int, 2) := by decide +kernel
theorem dX3_init_48 : decode cX3_init 48 = .ok (.putfield 31, 3) := by decide +kernel
theorem dX3_init_51 : decode cX3_init 51 = .ok (.aload_n 0, 1) := by decide +kernel
theorem dX3_init_52 : decode cX3_init 52 = .ok (.sipush 640, 3) := by decide +kernel
theorem dX3_init_55 : decode cX3_init 55 = .ok (.newarray .int, 2) := by decide +kernel
theorem dX3_init_57 : decode cX3_init 57 = .ok (.putfield 34, 3) := by decide +kernel
theorem dX3_init_60 : decode cX3_init 60 = .ok (.aload_n 0, 1) := by decide +kernel
theorem dX3_init_61 : decode cX3_init 61 = .ok (.bipush 40, 2) := by decide +kernel
theorem dX3_init_63 : decode cX3_init 63 = .ok (.newarray .int, 2) := by decide +kernel
theorem dX3_init_65 : decode cX3_init 65 = .ok (.putfield 37, 3) := by decide +kernel
theorem dX3_init_68 : decode cX3_init 68 = .ok (.aload_n 0, 1) := by decide +kernel
theorem dX3_init_69 : decode cX3_init 69 = .ok (.bipush 40, 2) := by decide +kernel
theorem dX3_init_71 : decode cX3_init 71 = .ok (.newarray .int, 2) := by decide +kernel
theorem dX3_init_73 : decode cX3_init 73 = .ok (.putfield 40, 3) := by decide +kernel
theorem dX3_init_76 : decode cX3_init 76 = .ok (.aload_n 0, 1) := by decide +kernel
theorem dX3_init_77 : decode cX3_init 77 = .ok (.bipush 40, 2) := by decide +kernel
theorem dX3_init_79 : decode cX3_init 79 = .ok (.newarray .int, 2) := by decide +kernel
theorem dX3_init_81 : decode cX3_init 81 = .ok (.putfield 43, 3) := by decide +kernel
theorem dX3_init_84 : decode cX3_init 84 = .ok (.aload_n 0, 1) := by decide +kernel
theorem dX3_init_85 : decode cX3_init 85 = .ok (.bipush 40, 2) := by decide +kernel
theorem dX3_init_87 : decode cX3_init 87 = .ok (.newarray .int, 2) := by decide +kernel
theorem dX3_init_89 : decode cX3_init 89 = .ok (.putfield 46, 3) := by decide +kernel
theorem dX3_init_92 : decode cX3_init 92 = .ok (.aload_n 0, 1) := by decide +kernel
theorem dX3_init_93 : decode cX3_init 93 = .ok (.bipush 40, 2) := by decide +kernel
theorem dX3_init_95 : decode cX3_init 95 = .ok (.newarray .int, 2) := by decide +kernel
theorem dX3_init_97 : decode cX3_init 97 = .ok (.putfield 49, 3) := by decide +kernel
theorem dX3_init_100 : decode cX3_init 100 = .ok (.aload_n 0, 1) := by decide +kernel
theorem dX3_init_101 : decode cX3_init 101 = .ok (.bipush 40, 2) := by decide +kernel
theorem dX3_init_103 : decode cX3_init 103 = .ok (.newarray .int, 2) := by decide +kernel
theorem dX3_init_105 : decode cX3_init 105 = .ok (.putfield 52, 3) := by decide +kernel
theorem dX3_init_108 : decode cX3_init 108 = .ok (.aload_n 0, 1) := by decide +kernel
theorem dX3_init_109 : decode cX3_init 109 = .ok (.bipush 40, 2) := by decide +kernel
theorem dX3_init_111 : decode cX3_init 111 = .ok (.newarray .int, 2) := by decide +kernel
theorem dX3_init_113 : decode cX3_init 113 = .ok (.putfield 55, 3) := by decide +kernel
theorem dX3_init_116 : decode cX3_init 116 = .ok (.aload_n 0, 1) := by decide +kernel
theorem dX3_init_117 : decode cX3_init 117 = .ok (.bipush 40, 2) := by decide +kernel
theorem dX3_init_119 : decode cX3_init 119 = .ok (.newarray .int, 2) := by decide +kernel
theorem dX3_init_121 : decode cX3_init 121 = .ok (.putfield 58, 3) := by decide +kernel
theorem dX3_init_124 : decode cX3_init 124 = .ok (.aload_n 0, 1) := by decide +kernel
theorem dX3_init_125 : decode cX3_init 125 = .ok (.aload_n 1, 1) := by decide +kernel
theorem dX3_init_126 : decode cX3_init 126 = .ok (.putfield 61, 3) := by decide +kernel
theorem dX3_init_129 : decode cX3_init 129 = .ok (.return_, 1) := by decide +kernel
abbrev rmX3_init : Room := { frames := 1, cells := 12, slots := 2928, locals := 40 }
noncomputable def fX3_init (σ : St) (h : Nat) (x0 : Nat) (x1 : Nat) : Option St :=
(wrF σ x0 3 1 (.int (0))).bind fun σ6_5 =>
(wrF σ6_5 x0 3 2 (.int (0))).bind fun σ11_8 =>
xlet (xu σ11_8 (h + 0) (.inl (0, 656, .inl (fun _ => 0)))) fun σ18_11 =>
(wrF σ18_11 x0 3 3 (.ref (h + 0))).bind fun σ20_12 =>
(wrF σ20_12 x0 3 4 (.int (0))).bind fun σ25_15 =>
(wrF σ25_15 x0 3 5 (.int (0))).bind fun σ30_18 =>
xlet (xu σ30_18 (h + 1) (.inl (0, 656, .inl (fun _ => 0)))) fun σ37_21 =>
(wrF σ37_21 x0 3 6 (.ref (h + 1))).bind fun σ39_22 =>
xlet (xu σ39_22 (h + 2) (.inl (0, 656, .inl (fun _ => 0)))) fun σ46_25 =>
(wrF σ46_25 x0 3 7 (.ref (h + 2))).bind fun σ48_26 =>
xlet (xu σ48_26 (h + 3) (.inl (0, 640, .inl (fun _ => 0)))) fun σ55_29 =>
(wrF σ55_29 x0 3 8 (.ref (h + 3))).bind fun σ57_30 =>
xlet (xu σ57_30 (h + 4) (.inl (0, 40, .inl (fun _ => 0)))) fun σ63_33 =>
(wrF σ63_33 x0 3 9 (.ref (h + 4))).bind fun σ65_34 =>
xlet (xu σ65_34 (h + 5) (.inl (0, 40, .inl (fun _ => 0)))) fun σ71_37 =>
(wrF σ71_37 x0 3 10 (.ref (h + 5))).bind fun σ73_38 =>
xlet (xu σ73_38 (h + 6) (.inl (0, 40, .inl (fun _ => 0)))) fun σ79_41 =>
(wrF σ79_41 x0 3 11 (.ref (h + 6))).bind fun σ81_42 =>
xlet (xu σ81_42 (h + 7) (.inl (0, 40, .inl (fun _ => 0)))) fun σ87_45 =>
(wrF σ87_45 x0 3 12 (.ref (h + 7))).bind fun σ89_46 =>
xlet (xu σ89_46 (h + 8) (.inl (0, 40, .inl (fun _ => 0)))) fun σ95_49 =>
(wrF σ95_49 x0 3 13 (.ref (h + 8))).bind fun σ97_50 =>
xlet (xu σ97_50 (h + 9) (.inl (0, 40, .inl (fun _ => 0)))) fun σ103_53 =>
(wrF σ103_53 x0 3 14 (.ref (h + 9))).bind fun σ105_54 =>
xlet (xu σ105_54 (h + 10) (.inl (0, 40, .inl (fun _ => 0)))) fun σ111_57 =>
(wrF σ111_57 x0 3 15 (.ref (h + 10))).bind fun σ113_58 =>
xlet (xu σ113_58 (h + 11) (.inl (0, 40, .inl (fun _ => 0)))) fun σ119_61 =>
(wrF σ119_61 x0 3 16 (.ref (h + 11))).bind fun σ121_62 =>
(wrF σ121_62 x0 3 0 (.ref (x1))).bind fun σ126_65 =>
some σ126_65
set_option maxHeartbeats 4000000 in
set_option maxRecDepth 100000 in
theorem cX3_initc {l : Launch} {G : xG} {A : Nat → Prop} {σ : St} {h : Nat} {x0 : Nat} {x1 : Nat} {c : St} (hf : fX3_init σ h x0 x1 = some c) : ConA l yX3_init (xws yX3_init cX3_init 2 none) rmX3_init 12 2928 [.ref (x0), .ref (x1)] G A σ h c := by
  refine a_start rfl rfl (Nat.le_of_ble_eq_true rfl) (fun X _ _ _ C O hE0 => ?_)
  have hE : ∀ r, c = r → aE X 12 2928 (h + 12) r := fun r e => e ▸ hE0
  show V X (0, 0) σ 0 [(0, .ref (x0)), (1, .ref (x1))] []
  unfold fX3_init at hf
  refine x_aload_n C dX3_init_0 1 rfl 0 rfl rfl ?_
  refine a_obj C dX3_init_1 4 rfl w456 objw ⟨Nat.le_of_ble_eq_true rfl, Nat.le_of_ble_eq_true rfl⟩ ?_
  refine x_aload_n C dX3_init_4 5 rfl 0 rfl rfl ?_
  refine x_iconst C dX3_init_5 6 rfl 0 (by decide) ?_
  obtain ⟨σ6_5, hσ6_5, hf⟩ := x_bind hf
  refine x_putX C dX3_init_6 9 rfl hσ6_5 cl3 rfl w458 rfl rfl rfl ?_
  refine x_aload_n C dX3_init_9 10 rfl 0 rfl rfl ?_
  refine x_iconst C dX3_init_10 11 rfl 0 (by decide) ?_
  obtain ⟨σ11_8, hσ11_8, hf⟩ := x_bind hf
  refine x_putX C dX3_init_11 14 rfl hσ11_8 cl3 rfl w459 rfl rfl rfl ?_
  refine x_aload_n C dX3_init_14 15 rfl 0 rfl rfl ?_
  refine x_sipush C dX3_init_15 18 rfl 656 (by decide) ?_
  obtain ⟨σ18_11, eσ18_11, hf⟩ := xlet_some hf
  refine a_newI C O dX3_init_18 20 rfl w232 (by decide) (N := 656) (by decide) (Nat.le_of_ble_eq_true rfl) (h + 0) rfl ⟨Nat.le_of_ble_eq_true rfl, Nat.le_of_ble_eq_true rfl⟩ eσ18_11 (1, 656) rfl ?_
  obtain ⟨σ20_12, hσ20_12, hf⟩ := x_bind hf
  refine a_putF C O dX3_init_20 23 rfl hσ20_12 cl3 rfl w461 rfl rfl rfl rfl ?_
  refine x_aload_n C dX3_init_23 24 rfl 0 rfl rfl ?_
  refine x_iconst C dX3_init_24 25 rfl 0 (by decide) ?_
  obtain ⟨σ25_15, hσ25_15, hf⟩ := x_bind hf
  refine x_putX C dX3_init_25 28 rfl hσ25_15 cl3 rfl w462 rfl rfl rfl ?_
  refine x_aload_n C dX3_init_28 29 rfl 0 rfl rfl ?_
  refine x_iconst C dX3_init_29 30 rfl 0 (by decide) ?_
  obtain ⟨σ30_18, hσ30_18, hf⟩ := x_bind hf
  refine x_putX C dX3_init_30 33 rfl hσ30_18 cl3 rfl w463 rfl rfl rfl ?_
  refine x_aload_n C dX3_init_33 34 rfl 0 rfl rfl ?_
  refine x_sipush C dX3_init_34 37 rfl 656 (by decide) ?_
  obtain ⟨σ37_21, eσ37_21, hf⟩ := xlet_some hf
  refine a_newI C O dX3_init_37 39 rfl w232 (by decide) (N := 656) (by decide) (Nat.le_of_ble_eq_true rfl) (h + 1) rfl ⟨Nat.le_of_ble_eq_true rfl, Nat.le_of_ble_eq_true rfl⟩ eσ37_21 (2, 1312) rfl ?_
  obtain ⟨σ39_22, hσ39_22, hf⟩ := x_bind hf
  refine a_putF C O dX3_init_39 42 rfl hσ39_22 cl3 rfl w464 rfl rfl rfl rfl ?_
  refine x_aload_n C dX3_init_42 43 rfl 0 rfl rfl ?_
  refine x_sipush C dX3_init_43 46 rfl 656 (by decide) ?_
  obtain ⟨σ46_25, eσ46_25, hf⟩ := xlet_some hf
  refine a_newI C O dX3_init_46 48 rfl w232 (by decide) (N := 656) (by decide) (Nat.le_of_ble_eq_true rfl) (h + 2) rfl ⟨Nat.le_of_ble_eq_true rfl, Nat.le_of_ble_eq_true rfl⟩ eσ46_25 (3, 1968) rfl ?_
  obtain ⟨σ48_26, hσ48_26, hf⟩ := x_bind hf
  refine a_putF C O dX3_init_48 51 rfl hσ48_26 cl3 rfl w465 rfl rfl rfl rfl ?_
  refine x_aload_n C dX3_init_51 52 rfl 0 rfl rfl ?_
  refine x_sipush C dX3_init_52 55 rfl 640 (by decide) ?_
  obtain ⟨σ55_29, eσ55_29, hf⟩ := xlet_some hf
  refine a_newI C O dX3_init_55 57 rfl w232 (by decide) (N := 640) (by decide) (Nat.le_of_ble_eq_true rfl) (h + 3) rfl ⟨Nat.le_of_ble_eq_true rfl, Nat.le_of_ble_eq_true rfl⟩ eσ55_29 (4, 2608) rfl ?_
  obtain ⟨σ57_30, hσ57_30, hf⟩ := x_bind hf
  refine a_putF C O dX3_init_57 60 rfl hσ57_30 cl3 rfl w466 rfl rfl rfl rfl ?_
  refine x_aload_n C dX3_init_60 61 rfl 0 rfl rfl ?_
  refine x_bipush C dX3_init_61 63 rfl 40 (by decide) ?_
  obtain ⟨σ63_33, eσ63_33, hf⟩ := xlet_some hf
  refine a_newI C O dX3_init_63 65 rfl w232 (by decide) (N := 40) (by decide) (Nat.le_of_ble_eq_true rfl) (h + 4) rfl ⟨Nat.le_of_ble_eq_true rfl, Nat.le_of_ble_eq_true rfl⟩ eσ63_33 (5, 2648) rfl ?_
  obtain ⟨σ65_34, hσ65_34, hf⟩ := x_bind hf
  refine a_putF C O dX3_init_65 68 rfl hσ65_34 cl3 rfl w467 rfl rfl rfl rfl ?_
  refine x_aload_n C dX3_init_68 69 rfl 0 rfl rfl ?_
  refine x_bipush C dX3_init_69 71 rfl 40 (by decide) ?_
  obtain ⟨σ71_37, eσ71_37, hf⟩ := xlet_some hf
  refine a_newI C O dX3_init_71 73 rfl w232 (by decide) (N := 40) (by decide) (Nat.le_of_ble_eq_true rfl) (h + 5) rfl ⟨Nat.le_of_ble_eq_true rfl, Nat.le_of_ble_eq_true rfl⟩ eσ71_37 (6, 2688) rfl ?_
  obtain ⟨σ73_38, hσ73_38, hf⟩ := x_bind hf
  refine a_putF C O dX3_init_73 76 rfl hσ73_38 cl3 rfl w468 rfl rfl rfl rfl ?_
  refine x_aload_n C dX3_init_76 77 rfl 0 rfl rfl ?_
  refine x_bipush C dX3_init_77 79 rfl 40 (by decide) ?_
  obtain ⟨σ79_41, eσ79_41, hf⟩ := xlet_some hf
  refine a_newI C O dX3_init_79 81 rfl w232 (by decide) (N := 40) (by decide) (Nat.le_of_ble_eq_true rfl) (h + 6) rfl ⟨Nat.le_of_ble_eq_true rfl, Nat.le_of_ble_eq_true rfl⟩ eσ79_41 (7, 2728) rfl ?_
  obtain ⟨σ81_42, hσ81_42, hf⟩ := x_bind hf
  refine a_putF C O dX3_init_81 84 rfl hσ81_42 cl3 rfl w469 rfl rfl rfl rfl ?_
  refine x_aload_n C dX3_init_84 85 rfl 0 rfl rfl ?_
  refine x_bipush C dX3_init_85 87 rfl 40 (by decide) ?_
  obtain ⟨σ87_45, eσ87_45, hf⟩ := xlet_some hf
  refine a_newI C O dX3_init_87 89 rfl w232 (by decide) (N := 40) (by decide) (Nat.le_of_ble_eq_true rfl) (h + 7) rfl ⟨Nat.le_of_ble_eq_true rfl, Nat.le_of_ble_eq_true rfl⟩ eσ87_45 (8, 2768) rfl ?_
  obtain ⟨σ89_46, hσ89_46, hf⟩ := x_bind hf
  refine a_putF C O dX3_init_89 92 rfl hσ89_46 cl3 rfl w470 rfl rfl rfl rfl ?_
  refine x_aload_n C dX3_init_92 93 rfl 0 rfl rfl ?_
  refine x_bipush C dX3_init_93 95 rfl 40 (by decide) ?_
  obtain ⟨σ95_49, eσ95_49, hf⟩ := xlet_some hf
  refine a_newI C O dX3_init_95 97 rfl w232 (by decide) (N := 40) (by decide) (Nat.le_of_ble_eq_true rfl) (h + 8) rfl ⟨Nat.le_of_ble_eq_true rfl, Nat.le_of_ble_eq_true rfl⟩ eσ95_49 (9, 2808) rfl ?_
  obtain ⟨σ97_50, hσ97_50, hf⟩ := x_bind hf
  refine a_putF C O dX3_init_97 100 rfl hσ97_50 cl3 rfl w472 rfl rfl rfl rfl ?_
  refine x_aload_n C dX3_init_100 101 rfl 0 rfl rfl ?_
  refine x_bipush C dX3_init_101 103 rfl 40 (by decide) ?_
  obtain ⟨σ103_53, eσ103_53, hf⟩ := xlet_some hf
  refine a_newI C O dX3_init_103 105 rfl w232 (by decide) (N := 40) (by decide) (Nat.le_of_ble_eq_true rfl) (h + 9) rfl ⟨Nat.le_of_ble_eq_true rfl, Nat.le_of_ble_eq_true rfl⟩ eσ103_53 (10, 2848) rfl ?_
  obtain ⟨σ105_54, hσ105_54, hf⟩ := x_bind hf
  refine a_putF C O dX3_init_105 108 rfl hσ105_54 cl3 rfl w474 rfl rfl rfl rfl ?_
  refine x_aload_n C dX3_init_108 109 rfl 0 rfl rfl ?_
  refine x_bipush C dX3_init_109 111 rfl 40 (by decide) ?_
  obtain ⟨σ111_57, eσ111_57, hf⟩ := xlet_some hf
  refine a_newI C O dX3_init_111 113 rfl w232 (by decide) (N := 40) (by decide) (Nat.le_of_ble_eq_true rfl) (h + 10) rfl ⟨Nat.le_of_ble_eq_true rfl, Nat.le_of_ble_eq_true rfl⟩ eσ111_57 (11, 2888) rfl ?_
  obtain ⟨σ113_58, hσ113_58, hf⟩ := x_bind hf
  refine a_putF C O dX3_init_113 116 rfl hσ113_58 cl3 rfl w476 rfl rfl rfl rfl ?_
  refine x_aload_n C dX3_init_116 117 rfl 0 rfl rfl ?_
  refine x_bipush C dX3_init_117 119 rfl 40 (by decide) ?_
  obtain ⟨σ119_61, eσ119_61, hf⟩ := xlet_some hf
  refine a_newI C O dX3_init_119 121 rfl w232 (by decide) (N := 40) (by decide) (Nat.le_of_ble_eq_true rfl) (h + 11) rfl ⟨Nat.le_of_ble_eq_true rfl, Nat.le_of_ble_eq_true rfl⟩ eσ119_61 (12, 2928) rfl ?_
  obtain ⟨σ121_62, hσ121_62, hf⟩ := x_bind hf
  refine a_putF C O dX3_init_121 124 rfl hσ121_62 cl3 rfl w478 rfl rfl rfl rfl ?_
  refine x_aload_n C dX3_init_124 125 rfl 0 rfl rfl ?_
  refine x_aload_n C dX3_init_125 126 rfl 1 rfl rfl ?_
  obtain ⟨σ126_65, hσ126_65, hf⟩ := x_bind hf
  refine a_putF C O dX3_init_126 129 rfl hσ126_65 cl3 rfl w457 rfl rfl rfl rfl ?_
  exact a_vret C O (hE _ (Option.some.inj hf).symm) rfl dX3_init_129
theorem dX11_init_0 : decode cX11_init 0 = .ok (.aload_n 0, 1) := by decide +kernel
theorem dX11_init_1 : decode cX11_init 1 = .ok (.invokespecial 1, 3) := by decide +kernel
theorem dX11_init_4 : decode cX11_init 4 = .ok (.aload_n 0, 1) := by decide +kernel
theorem dX11_init_5 : decode cX11_init 5 = .ok (.sipush 300, 3) := by decide +kernel
theorem dX11_init_8 : decode cX11_init 8 = .ok (.newarray .int, 2) := by decide +kernel
theorem dX11_init_10 : decode cX11_init 10 = .ok (.putfield 9, 3) := by decide +kernel
theorem dX11_init_13 : decode cX11_init 13 = .ok (.aload_n 0, 1) := by decide +kernel
theorem dX11_init_14 : decode cX11_init 14 = .ok (.iconst 0, 1) := by decide +kernel
theorem dX11_init_15 : decode cX11_init 15 = .ok (.putfield 13, 3) := by decide +kernel
theorem dX11_init_18 : decode cX11_init 18 = .ok (.aload_n 0, 1) := by decide +kernel
theorem dX11_init_19 : decode cX11_init 19 = .ok (.iconst (-1), 1) := by decide +kernel
theorem dX11_init_20 : decode cX11_init 20 = .ok (.putfield 17, 3) := by decide +kernel
theorem dX11_init_23 : decode cX11_init 23 = .ok (.aload_n 0, 1) := by decide +kernel
theorem dX11_init_24 : decode cX11_init 24 = .ok (.new 20, 3) := by decide +kernel
theorem dX11_init_27 : decode cX11_init 27 = .ok (.dup, 1) := by decide +kernel
theorem dX11_init_28 : decode cX11_init 28 = .ok (.invokespecial 22, 3) := by decide +kernel
theorem dX11_init_31 : decode cX11_init 31 = .ok (.putfield 23, 3) := by decide +kernel
theorem dX11_init_34 : decode cX11_init 34 = .ok (.aload_n 0, 1) := by decide +kernel
theorem dX11_init_35 : decode cX11_init 35 = .ok (.new 20, 3) := by decide +kernel
theorem dX11_init_38 : decode cX11_init 38 = .ok (.dup, 1) := by decide +kernel
theorem dX11_init_39 : decode cX11_init 39 = .ok (.invokespecial 22, 3) := by decide +kernel
theorem dX11_init_42 : decode cX11_init 42 = .ok (.putfield 27, 3) := by decide +kernel
theorem dX11_init_45 : decode cX11_init 45 = .ok (.aload_n 0, 1) := by decide +kernel
theorem dX11_init_46 : decode cX11_init 46 = .ok (.iconst 0, 1) := by decide +kernel
theorem dX11_init_47 : decode cX11_init 47 = .ok (.putfield 30, 3) := by decide +kernel
theorem dX11_init_50 : decode cX11_init 50 = .ok (.aload_n 0, 1) := by decide +kernel
theorem dX11_init_51 : decode cX11_init 51 = .ok (.new 34, 3) := by decide +kernel
theorem dX11_init_54 : decode cX11_init 54 = .ok (.dup, 1) := by decide +kernel
theorem dX11_init_55 : decode cX11_init 55 = .ok (.invokespecial 36, 3) := by decide +kernel
theorem dX11_init_58 : decode cX11_init 58 = .ok (.putfield 37, 3) := by decide +kernel
theorem dX11_init_61 : decode cX11_init 61 = .ok (.aload_n 0, 1) := by decide +kernel
theorem dX11_init_62 : decode cX11_init 62 = .ok (.new 41, 3) := by decide +kernel
theorem dX11_init_65 : decode cX11_init 65 = .ok (.dup, 1) := by decide +kernel
theorem dX11_init_66 : decode cX11_init 66 = .ok (.aload_n 0, 1) := by decide +kernel
theorem dX11_init_67 : decode cX11_init 67 = .ok (.getfield 9, 3) := by decide +kernel
theorem dX11_init_70 : decode cX11_init 70 = .ok (.invokespecial 43, 3) := by decide +kernel
theorem dX11_init_73 : decode cX11_init 73 = .ok (.putfield 46, 3) := by decide +kernel
theorem dX11_init_76 : decode cX11_init 76 = .ok (.aload_n 0, 1) := by decide +kernel
theorem dX11_init_77 : decode cX11_init 77 = .ok (.new 50, 3) := by decide +kernel
theorem dX11_init_80 : decode cX11_init 80 = .ok (.dup, 1) := by decide +kernel
theorem dX11_init_81 : decode cX11_init 81 = .ok (.aload_n 0, 1) := by decide +kernel
theorem dX11_init_82 : decode cX11_init 82 = .ok (.getfield 23, 3) := by decide +kernel
theorem dX11_init_85 : decode cX11_init 85 = .ok (.getfield 52, 3) := by decide +kernel
theorem dX11_init_88 : decode cX11_init 88 = .ok (.invokespecial 56, 3) := by decide +kernel
theorem dX11_init_91 : decode cX11_init 91 = .ok (.putfield 59, 3) := by decide +kernel
theorem dX11_init_94 : decode cX11_init 94 = .ok (.aload_n 0, 1) := by decide +kernel
theorem dX11_init_95 : decode cX11_init 95 = .ok (.new 63, 3) := by decide +kernel
theorem dX11_init_98 : decode cX11_init 98 = .ok (.dup, 1) := by decide +kernel
theorem dX11_init_99 : decode cX11_init 99 = .ok (.aload_n 0, 1) := by decide +kernel
theorem dX11_init_100 : decode cX11_init 100 = .ok (.getfield 23, 3) := by decide +kernel
theorem dX11_init_103 : decode cX11_init 103 = .ok (.getfield 52, 3) := by decide +kernel
theorem dX11_init_106 : decode cX11_init 106 = .ok (.aload_n 0, 1) := by decide +kernel
theorem dX11_init_107 : decode cX11_init 107 = .ok (.getfield 59, 3) := by decide +kernel
theorem dX11_init_110 : decode cX11_init 110 = .ok (.invokespecial 65, 3) := by decide +kernel
theorem dX11_init_113 : decode cX11_init 113 = .ok (.putfield 68, 3) := by decide +kernel
theorem dX11_init_116 : decode cX11_init 116 = .ok (.aload_n 0, 1) := by decide +kernel
theorem dX11_init_117 : decode cX11_init 117 = .ok (.new 72, 3) := by decide +kernel
theorem dX11_init_120 : decode cX11_init 120 = .ok (.dup, 1) := by decide +kernel
theorem dX11_init_121 : decode cX11_init 121 = .ok (.aload_n 0, 1) := by decide +kernel
theorem dX11_init_122 : decode cX11_init 122 = .ok (.getfield 23, 3) := by decide +kernel
theorem dX11_init_125 : decode cX11_init 125 = .ok (.getfield 52, 3) := by decide +kernel
theorem dX11_init_128 : decode cX11_init 128 = .ok (.iconst 0, 1) := by decide +kernel
theorem dX11_init_129 : decode cX11_init 129 = .ok (.invokespecial 74, 3) := by decide +kernel
theorem dX11_init_132 : decode cX11_init 132 = .ok (.putfield 77, 3) := by decide +kernel
theorem dX11_init_135 : decode cX11_init 135 = .ok (.aload_n 0, 1) := by decide +kernel
theorem dX11_init_136 : decode cX11_init 136 = .ok (.new 72, 3) := by decide +kernel
theorem dX11_init_139 : decode cX11_init 139 = .ok (.dup, 1) := by decide +kernel
theorem dX11_init_140 : decode cX11_init 140 = .ok (.aload_n 0, 1) := by decide +kernel
theorem dX11_init_141 : decode cX11_init 141 = .ok (.getfield 23, 3) := by decide +kernel
theorem dX11_init_144 : decode cX11_init 144 = .ok (.getfield 52, 3) := by decide +kernel
theorem dX11_init_147 : decode cX11_init 147 = .ok (.iconst 0, 1) := by decide +kernel
theorem dX11_init_148 : decode cX11_init 148 = .ok (.invokespecial 74, 3) := by decide +kernel
theorem dX11_init_151 : decode cX11_init 151 = .ok (.putfield 81, 3) := by decide +kernel
theorem dX11_init_154 : decode cX11_init 154 = .ok (.aload_n 0, 1) := by decide +kernel
theorem dX11_init_155 : decode cX11_init 155 = .ok (.new 72, 3) := by decide +kernel
theorem dX11_init_158 : decode cX11_init 158 = .ok (.dup, 1) := by decide +kernel
theorem dX11_init_159 : decode cX11_init 159 = .ok (.aload_n 0, 1) := by decide +kernel
theorem dX11_init_160 : decode cX11_init 160 = .ok (.getfield 23, 3) := by decide +kernel
theorem dX11_init_163 : decode cX11_init 163 = .ok (.getfield 52, 3) := by decide +kernel
theorem dX11_init_166 : decode cX11_init 166 = .ok (.iconst 1, 1) := by decide +kernel
theorem dX11_init_167 : decode cX11_init 167 = .ok (.invokespecial 74, 3) := by decide +kernel
theorem dX11_init_170 : decode cX11_init 170 = .ok (.putfield 84, 3) := by decide +kernel
theorem dX11_init_173 : decode cX11_init 173 = .ok (.aload_n 0, 1) := by decide +kernel
theorem dX11_init_174 : decode cX11_init 174 = .ok (.new 87, 3) := by decide +kernel
theorem dX11_init_177 : decode cX11_init 177 = .ok (.dup, 1) := by decide +kernel
theorem dX11_init_178 : decode cX11_init 178 = .ok (.aload_n 0, 1) := by decide +kernel
theorem dX11_init_179 : decode cX11_init 179 = .ok (.getfield 23, 3) := by decide +kernel
theorem dX11_init_182 : decode cX11_init 182 = .ok (.getfield 52, 3) := by decide +kernel
theorem dX11_init_185 : decode cX11_init 185 = .ok (.invokespecial 89, 3) := by decide +kernel
theorem dX11_init_188 : decode cX11_init 188 = .ok (.putfield 90, 3) := by decide +kernel
theorem dX11_init_191 : decode cX11_init 191 = .ok (.aload_n 0, 1) := by decide +kernel
theorem dX11_init_192 : decode cX11_init 192 = .ok (.new 94, 3) := by decide +kernel
theorem dX11_init_195 : decode cX11_init 195 = .ok (.dup, 1) := by decide +kernel
theorem dX11_init_196 : decode cX11_init 196 = .ok (.invokespecial 96, 3) := by decide +kernel
theorem dX11_init_199 : decode cX11_init 199 = .ok (.putfield 97, 3) := by decide +kernel
theorem dX11_init_202 : decode cX11_init 202 = .ok (.aload_n 0, 1) := by decide +kernel
theorem dX11_init_203 : decode cX11_init 203 = .ok (.new 94, 3) := by decide +kernel
theorem dX11_init_206 : decode cX11_init 206 = .ok (.dup, 1) := by decide +kernel
theorem dX11_init_207 : decode cX11_init 207 = .ok (.invokespecial 96, 3) := by decide +kernel
theorem dX11_init_210 : decode cX11_init 210 = .ok (.putfield 101, 3) := by decide +kernel
theorem dX11_init_213 : decode cX11_init 213 = .ok (.aload_n 0, 1) := by decide +kernel
theorem dX11_init_214 : decode cX11_init 214 = .ok (.new 104, 3) := by decide +kernel
theorem dX11_init_217 : decode cX11_init 217 = .ok (.dup, 1) := by decide +kernel
theorem dX11_init_218 : decode cX11_init 218 = .ok (.aload_n 0, 1) := by decide +kernel
theorem dX11_init_219 : decode cX11_init 219 = .ok (.getfield 23, 3) := by decide +kernel
theorem dX11_init_222 : decode cX11_init 222 = .ok (.invokespecial 106, 3) := by decide +kernel
theorem dX11_init_225 : decode cX11_init 225 = .ok (.putfield 109, 3) := by decide +kernel
theorem dX11_init_228 : decode cX11_init 228 = .ok (.aload_n 0, 1) := by decide +kernel
theorem dX11_init_229 : decode cX11_init 229 = .ok (.new 104, 3) := by decide +kernel
theorem dX11_init_232 : decode cX11_init 232 = .ok (.dup, 1) := by decide +kernel
theorem dX11_init_233 : decode cX11_init 233 = .ok (.aload_n 0, 1) := by decide +kernel
theorem dX11_init_234 : decode cX11_init 234 = .ok (.getfield 23, 3) := by decide +kernel
theorem dX11_init_237 : decode cX11_init 237 = .ok (.invokespecial 106, 3) := by decide +kernel
theorem dX11_init_240 : decode cX11_init 240 = .ok (.putfield 113, 3) := by decide +kernel
theorem dX11_init_243 : decode cX11_init 243 = .ok (.aload_n 0, 1) := by decide +kernel
theorem dX11_init_244 : decode cX11_init 244 = .ok (.sipush 430, 3) := by decide +kernel
theorem dX11_init_247 : decode cX11_init 247 = .ok (.newarray .int, 2) := by decide +kernel
theorem dX11_init_249 : decode cX11_init 249 = .ok (.putfield 116, 3) := by decide +kernel
theorem dX11_init_252 : decode cX11_init 252 = .ok (.aload_n 0, 1) := by decide +kernel
theorem dX11_init_253 : decode cX11_init 253 = .ok (.iconst 0, 1) := by decide +kernel
theorem dX11_init_254 : decode cX11_init 254 = .ok (.putfield 119, 3) := by decide +kernel
theorem dX11_init_257 : decode cX11_init 257 = .ok (.return_, 1) := by decide +kernel
abbrev rmX11_init : Room := { frames := 4, cells := 307, slots := 24054, locals := 101 }
noncomputable def fX11_init (σ : St) (h : Nat) (x0 : Nat) : Option St :=
xlet (xu σ (h + 0) (.inl (0, 300, .inl (fun _ => 0)))) fun σ8_5 =>
(wrF σ8_5 x0 10 0 (.ref (h + 0))).bind fun σ10_6 =>
(wrF σ10_6 x0 10 1 (.int (0))).bind fun σ15_9 =>
(wrF σ15_9 x0 10 2 (.int ((-1)))).bind fun σ20_12 =>
xlet (xu σ20_12 (h + 1) (.inr (2, [.null, .null, .null, .null, .null]))) fun σ24_14 =>
(fX2_init σ24_14 (h + 2) (h + 1)).bind fun σ28_16 =>
(wrF σ28_16 x0 10 3 (.ref (h + 1))).bind fun σ31_17 =>
xlet (xu σ31_17 (h + 12) (.inr (2, [.null, .null, .null, .null, .null]))) fun σ35_19 =>
(fX2_init σ35_19 (h + 13) (h + 12)).bind fun σ39_21 =>
(wrF σ39_21 x0 10 4 (.ref (h + 12))).bind fun σ42_22 =>
(wrF σ42_22 x0 10 5 (.int (0))).bind fun σ47_25 =>
xlet (xu σ47_25 (h + 23) (.inr (0, [.null, .int 0, .int 0]))) fun σ51_27 =>
(fX0_init σ51_27 (h + 24) (h + 23)).bind fun σ55_29 =>
(wrF σ55_29 x0 10 6 (.ref (h + 23))).bind fun σ58_30 =>
xlet (xu σ58_30 (h + 245) (.inr (7, [.null, .null, .int 0, .int 0, .int 0, .int 0]))) fun σ62_32 =>
(gR σ62_32 x0 10 0).bind fun v67_35 =>
(fX7_init σ62_32 (h + 246) (h + 245) v67_35).bind fun σ70_36 =>
(wrF σ70_36 x0 10 7 (.ref (h + 245))).bind fun σ73_37 =>
xlet (xu σ73_37 (h + 252) (.inr (9, [.null, .null, .null, .int 0, .int 0]))) fun σ77_39 =>
(gR σ77_39 x0 10 3).bind fun v82_42 =>
(gR σ77_39 v82_42 2 0).bind fun v85_43 =>
(fX9_init σ77_39 (h + 253) (h + 252) v85_43).bind fun σ88_44 =>
(wrF σ88_44 x0 10 8 (.ref (h + 252))).bind fun σ91_45 =>
xlet (xu σ91_45 (h + 255) (.inr (5, [.null, .null, .null, .null, .null, .int 0, .int 0]))) fun σ95_47 =>
(gR σ95_47 x0 10 3).bind fun v100_50 =>
(gR σ95_47 v100_50 2 0).bind fun v103_51 =>
(gR σ95_47 x0 10 8).bind fun v107_53 =>
(fX5_init σ95_47 (h + 256) (h + 255) v103_51 v107_53).bind fun σ110_54 =>
(wrF σ110_54 x0 10 9 (.ref (h + 255))).bind fun σ113_55 =>
xlet (xu σ113_55 (h + 259) (.inr (6, [.null, .int 0, .null, .null, .int 0, .int 0, .int 0, .int 0, .null, .int 0]))) fun σ117_57 =>
(gR σ117_57 x0 10 3).bind fun v122_60 =>
(gR σ117_57 v122_60 2 0).bind fun v125_61 =>
(fX6_init σ117_57 (h + 260) (h + 259) v125_61 0).bind fun σ129_63 =>
(wrF σ129_63 x0 10 10 (.ref (h + 259))).bind fun σ132_64 =>
xlet (xu σ132_64 (h + 263) (.inr (6, [.null, .int 0, .null, .null, .int 0, .int 0, .int 0, .int 0, .null, .int 0]))) fun σ136_66 =>
(gR σ136_66 x0 10 3).bind fun v141_69 =>
(gR σ136_66 v141_69 2 0).bind fun v144_70 =>
(fX6_init σ136_66 (h + 264) (h + 263) v144_70 0).bind fun σ148_72 =>
(wrF σ148_72 x0 10 11 (.ref (h + 263))).bind fun σ151_73 =>
xlet (xu σ151_73 (h + 267) (.inr (6, [.null, .int 0, .null, .null, .int 0, .int 0, .int 0, .int 0, .null, .int 0]))) fun σ155_75 =>
(gR σ155_75 x0 10 3).bind fun v160_78 =>
(gR σ155_75 v160_78 2 0).bind fun v163_79 =>
(fX6_init σ155_75 (h + 268) (h + 267) v163_79 1).bind fun σ167_81 =>
(wrF σ167_81 x0 10 12 (.ref (h + 267))).bind fun σ170_82 =>
xlet (xu σ170_82 (h + 271) (.inr (1, [.null, .null, .int 0, .null, .null, .null]))) fun σ174_84 =>
(gR σ174_84 x0 10 3).bind fun v179_87 =>
(gR σ174_84 v179_87 2 0).bind fun v182_88 =>
(fX1_init σ174_84 (h + 272) (h + 271) v182_88).bind fun σ185_89 =>
(wrF σ185_89 x0 10 13 (.ref (h + 271))).bind fun σ188_90 =>
xlet (xu σ188_90 (h + 276) (.inr (4, [.null, .int 0, .long 0, .long 0]))) fun σ192_92 =>
(fX4_init σ192_92 (h + 277) (h + 276)).bind fun σ196_94 =>
(wrF σ196_94 x0 10 14 (.ref (h + 276))).bind fun σ199_95 =>
xlet (xu σ199_95 (h + 278) (.inr (4, [.null, .int 0, .long 0, .long 0]))) fun σ203_97 =>
(fX4_init σ203_97 (h + 279) (h + 278)).bind fun σ207_99 =>
(wrF σ207_99 x0 10 15 (.ref (h + 278))).bind fun σ210_100 =>
xlet (xu σ210_100 (h + 280) (.inr (3, [.null, .int 0, .int 0, .null, .int 0, .int 0, .null, .null, .null, .null, .null, .null, .null, .null, .null, .null, .null]))) fun σ214_102 =>
(gR σ214_102 x0 10 3).bind fun v219_105 =>
(fX3_init σ214_102 (h + 281) (h + 280) v219_105).bind fun σ222_106 =>
(wrF σ222_106 x0 10 16 (.ref (h + 280))).bind fun σ225_107 =>
xlet (xu σ225_107 (h + 293) (.inr (3, [.null, .int 0, .int 0, .null, .int 0, .int 0, .null, .null, .null, .null, .null, .null, .null, .null, .null, .null, .null]))) fun σ229_109 =>
(gR σ229_109 x0 10 3).bind fun v234_112 =>
(fX3_init σ229_109 (h + 294) (h + 293) v234_112).bind fun σ237_113 =>
(wrF σ237_113 x0 10 17 (.ref (h + 293))).bind fun σ240_114 =>
xlet (xu σ240_114 (h + 306) (.inl (0, 430, .inl (fun _ => 0)))) fun σ247_117 =>
(wrF σ247_117 x0 10 18 (.ref (h + 306))).bind fun σ249_118 =>
(wrF σ249_118 x0 10 19 (.int (0))).bind fun σ254_121 =>
some σ254_121
set_option maxHeartbeats 4000000 in
set_option maxRecDepth 100000 in
theorem cX11_initc {l : Launch} {G : xG} {A : Nat → Prop} {σ : St} {h : Nat} {x0 : Nat} {c : St} (hf : fX11_init σ h x0 = some c) : ConA l yX11_init (xws yX11_init cX11_init 1 none) rmX11_init 307 24054 [.ref (x0)] G A σ h c := by
  refine a_start rfl rfl (Nat.le_of_ble_eq_true rfl) (fun X _ _ _ C O hE0 => ?_)
  have hE : ∀ r, c = r → aE X 307 24054 (h + 307) r := fun r e => e ▸ hE0
  show V X (0, 0) σ 0 [(0, .ref (x0))] []
  unfold fX11_init at hf
  refine x_aload_n C dX11_init_0 1 rfl 0 rfl rfl ?_
  refine a_obj C dX11_init_1 4 rfl w159 objw ⟨Nat.le_of_ble_eq_true rfl, Nat.le_of_ble_eq_true rfl⟩ ?_
  refine x_aload_n C dX11_init_4 5 rfl 0 rfl rfl ?_
  refine x_sipush C dX11_init_5 8 rfl 300 (by decide) ?_
  obtain ⟨σ8_5, eσ8_5, hf⟩ := xlet_some hf
  refine a_newI C O dX11_init_8 10 rfl w232 (by decide) (N := 300) (by decide) (Nat.le_of_ble_eq_true rfl) (h + 0) rfl ⟨Nat.le_of_ble_eq_true rfl, Nat.le_of_ble_eq_true rfl⟩ eσ8_5 (1, 300) rfl ?_
  obtain ⟨σ10_6, hσ10_6, hf⟩ := x_bind hf
  refine a_putF C O dX11_init_10 13 rfl hσ10_6 cl10 rfl w515 rfl rfl rfl rfl ?_
  refine x_aload_n C dX11_init_13 14 rfl 0 rfl rfl ?_
  refine x_iconst C dX11_init_14 15 rfl 0 (by decide) ?_
  obtain ⟨σ15_9, hσ15_9, hf⟩ := x_bind hf
  refine x_putX C dX11_init_15 18 rfl hσ15_9 cl10 rfl w516 rfl rfl rfl ?_
  refine x_aload_n C dX11_init_18 19 rfl 0 rfl rfl ?_
  refine x_iconst C dX11_init_19 20 rfl (-1) (by decide) ?_
  obtain ⟨σ20_12, hσ20_12, hf⟩ := x_bind hf
  refine x_putX C dX11_init_20 23 rfl hσ20_12 cl10 rfl w517 rfl rfl rfl ?_
  refine x_aload_n C dX11_init_23 24 rfl 0 rfl rfl ?_
  obtain ⟨σ24_14, eσ24_14, hf⟩ := xlet_some hf
  refine a_new C O dX11_init_24 27 rfl cl2 w162 w163 w129 [.null, .null, .null, .null, .null] df2 (h + 1) rfl ⟨Nat.le_of_ble_eq_true rfl, Nat.le_of_ble_eq_true rfl⟩ eσ24_14 (2, 305) rfl ?_
  refine x_dup C dX11_init_27 28 rfl rfl ?_
  obtain ⟨σ28_16, hσ28_16, hf⟩ := x_bind hf
  refine a_initN C O dX11_init_28 31 rfl rfl (cX2_initc hσ28_16) kX2_init kiX2_init (List.mem_of_getElem? (i := 0) rfl) ⟨rfl, rfl⟩ ⟨Nat.le_of_ble_eq_true rfl, Nat.le_of_ble_eq_true rfl⟩ ⟨Nat.le_of_ble_eq_true rfl, Nat.le_of_ble_eq_true rfl⟩ rfl rfl (Nat.le_of_ble_eq_true rfl) (12, 611) rfl ?_
  obtain ⟨σ31_17, hσ31_17, hf⟩ := x_bind hf
  refine a_putF C O dX11_init_31 34 rfl hσ31_17 cl10 rfl w518 rfl rfl rfl rfl ?_
  refine x_aload_n C dX11_init_34 35 rfl 0 rfl rfl ?_
  obtain ⟨σ35_19, eσ35_19, hf⟩ := xlet_some hf
  refine a_new C O dX11_init_35 38 rfl cl2 w162 w163 w129 [.null, .null, .null, .null, .null] df2 (h + 12) rfl ⟨Nat.le_of_ble_eq_true rfl, Nat.le_of_ble_eq_true rfl⟩ eσ35_19 (13, 616) rfl ?_
  refine x_dup C dX11_init_38 39 rfl rfl ?_
  obtain ⟨σ39_21, hσ39_21, hf⟩ := x_bind hf
  refine a_initN C O dX11_init_39 42 rfl rfl (cX2_initc hσ39_21) kX2_init kiX2_init (List.mem_of_getElem? (i := 0) rfl) ⟨rfl, rfl⟩ ⟨Nat.le_of_ble_eq_true rfl, Nat.le_of_ble_eq_true rfl⟩ ⟨Nat.le_of_ble_eq_true rfl, Nat.le_of_ble_eq_true rfl⟩ rfl rfl (Nat.le_of_ble_eq_true rfl) (23, 922) rfl ?_
  obtain ⟨σ42_22, hσ42_22, hf⟩ := x_bind hf
  refine a_putF C O dX11_init_42 45 rfl hσ42_22 cl10 rfl w519 rfl rfl rfl rfl ?_
  refine x_aload_n C dX11_init_45 46 rfl 0 rfl rfl ?_
  refine x_iconst C dX11_init_46 47 rfl 0 (by decide) ?_
  obtain ⟨σ47_25, hσ47_25, hf⟩ := x_bind hf
  refine x_putX C dX11_init_47 50 rfl hσ47_25 cl10 rfl w520 rfl rfl rfl ?_
  refine x_aload_n C dX11_init_50 51 rfl 0 rfl rfl ?_
  obtain ⟨σ51_27, eσ51_27, hf⟩ := xlet_some hf
  refine a_new C O dX11_init_51 54 rfl cl0 w257 w258 w131 [.null, .int 0, .int 0] df0 (h + 23) rfl ⟨Nat.le_of_ble_eq_true rfl, Nat.le_of_ble_eq_true rfl⟩ eσ51_27 (24, 925) rfl ?_
  refine x_dup C dX11_init_54 55 rfl rfl ?_
  obtain ⟨σ55_29, hσ55_29, hf⟩ := x_bind hf
  refine a_init C O dX11_init_55 58 rfl rfl (cX0_initc hσ55_29) kX0_init kiX0_init w259 ⟨rfl, rfl⟩ ⟨Nat.le_of_ble_eq_true rfl, Nat.le_of_ble_eq_true rfl⟩ ⟨Nat.le_of_ble_eq_true rfl, Nat.le_of_ble_eq_true rfl⟩ rfl rfl (Nat.le_of_ble_eq_true rfl) (245, 7165) rfl ?_
  obtain ⟨σ58_30, hσ58_30, hf⟩ := x_bind hf
  refine a_putF C O dX11_init_58 61 rfl hσ58_30 cl10 rfl w521 rfl rfl rfl rfl ?_
  refine x_aload_n C dX11_init_61 62 rfl 0 rfl rfl ?_
  obtain ⟨σ62_32, eσ62_32, hf⟩ := xlet_some hf
  refine a_new C O dX11_init_62 65 rfl cl7 w277 w278 w132 [.null, .null, .int 0, .int 0, .int 0, .int 0] df7 (h + 245) rfl ⟨Nat.le_of_ble_eq_true rfl, Nat.le_of_ble_eq_true rfl⟩ eσ62_32 (246, 7171) rfl ?_
  refine x_dup C dX11_init_65 66 rfl rfl ?_
  refine x_aload_n C dX11_init_66 67 rfl 0 rfl rfl ?_
  obtain ⟨v67_35, hv67_35, hf⟩ := x_bind hf
  refine x_getR C dX11_init_67 70 rfl hv67_35 cl10 rfl w515 ?_
  obtain ⟨σ70_36, hσ70_36, hf⟩ := x_bind hf
  refine a_init C O dX11_init_70 73 rfl rfl (cX7_initc hσ70_36) kX7_init kiX7_init w279 ⟨rfl, rfl⟩ ⟨Nat.le_of_ble_eq_true rfl, Nat.le_of_ble_eq_true rfl⟩ ⟨Nat.le_of_ble_eq_true rfl, Nat.le_of_ble_eq_true rfl⟩ rfl rfl (Nat.le_of_ble_eq_true rfl) (252, 7219) rfl ?_
  obtain ⟨σ73_37, hσ73_37, hf⟩ := x_bind hf
  refine a_putF C O dX11_init_73 76 rfl hσ73_37 cl10 rfl w522 rfl rfl rfl rfl ?_
  refine x_aload_n C dX11_init_76 77 rfl 0 rfl rfl ?_
  obtain ⟨σ77_39, eσ77_39, hf⟩ := xlet_some hf
  refine a_new C O dX11_init_77 80 rfl cl9 w306 w307 w133 [.null, .null, .null, .int 0, .int 0] df9 (h + 252) rfl ⟨Nat.le_of_ble_eq_true rfl, Nat.le_of_ble_eq_true rfl⟩ eσ77_39 (253, 7224) rfl ?_
  refine x_dup C dX11_init_80 81 rfl rfl ?_
  refine x_aload_n C dX11_init_81 82 rfl 0 rfl rfl ?_
  obtain ⟨v82_42, hv82_42, hf⟩ := x_bind hf
  refine x_getR C dX11_init_82 85 rfl hv82_42 cl10 rfl w518 ?_
  obtain ⟨v85_43, hv85_43, hf⟩ := x_bind hf
  refine x_getR C dX11_init_85 88 rfl hv85_43 cl2 rfl w235 ?_
  obtain ⟨σ88_44, hσ88_44, hf⟩ := x_bind hf
  refine a_init C O dX11_init_88 91 rfl rfl (cX9_initc hσ88_44) kX9_init kiX9_init w308 ⟨rfl, rfl⟩ ⟨Nat.le_of_ble_eq_true rfl, Nat.le_of_ble_eq_true rfl⟩ ⟨Nat.le_of_ble_eq_true rfl, Nat.le_of_ble_eq_true rfl⟩ rfl rfl (Nat.le_of_ble_eq_true rfl) (255, 7345) rfl ?_
  obtain ⟨σ91_45, hσ91_45, hf⟩ := x_bind hf
  refine a_putF C O dX11_init_91 94 rfl hσ91_45 cl10 rfl w523 rfl rfl rfl rfl ?_
  refine x_aload_n C dX11_init_94 95 rfl 0 rfl rfl ?_
  obtain ⟨σ95_47, eσ95_47, hf⟩ := xlet_some hf
  refine a_new C O dX11_init_95 98 rfl cl5 w331 w332 w134 [.null, .null, .null, .null, .null, .int 0, .int 0] df5 (h + 255) rfl ⟨Nat.le_of_ble_eq_true rfl, Nat.le_of_ble_eq_true rfl⟩ eσ95_47 (256, 7352) rfl ?_
  refine x_dup C dX11_init_98 99 rfl rfl ?_
  refine x_aload_n C dX11_init_99 100 rfl 0 rfl rfl ?_
  obtain ⟨v100_50, hv100_50, hf⟩ := x_bind hf
  refine x_getR C dX11_init_100 103 rfl hv100_50 cl10 rfl w518 ?_
  obtain ⟨v103_51, hv103_51, hf⟩ := x_bind hf
  refine x_getR C dX11_init_103 106 rfl hv103_51 cl2 rfl w235 ?_
  refine x_aload_n C dX11_init_106 107 rfl 0 rfl rfl ?_
  obtain ⟨v107_53, hv107_53, hf⟩ := x_bind hf
  refine x_getR C dX11_init_107 110 rfl hv107_53 cl10 rfl w523 ?_
  obtain ⟨σ110_54, hσ110_54, hf⟩ := x_bind hf
  refine a_init C O dX11_init_110 113 rfl rfl (cX5_initc hσ110_54) kX5_init kiX5_init w333 ⟨rfl, rfl⟩ ⟨Nat.le_of_ble_eq_true rfl, Nat.le_of_ble_eq_true rfl⟩ ⟨Nat.le_of_ble_eq_true rfl, Nat.le_of_ble_eq_true rfl⟩ rfl rfl (Nat.le_of_ble_eq_true rfl) (259, 14264) rfl ?_
  obtain ⟨σ113_55, hσ113_55, hf⟩ := x_bind hf
  refine a_putF C O dX11_init_113 116 rfl hσ113_55 cl10 rfl w524 rfl rfl rfl rfl ?_
  refine x_aload_n C dX11_init_116 117 rfl 0 rfl rfl ?_
  obtain ⟨σ117_57, eσ117_57, hf⟩ := xlet_some hf
  refine a_new C O dX11_init_117 120 rfl cl6 w362 w363 w135 [.null, .int 0, .null, .null, .int 0, .int 0, .int 0, .int 0, .null, .int 0] df6 (h + 259) rfl ⟨Nat.le_of_ble_eq_true rfl, Nat.le_of_ble_eq_true rfl⟩ eσ117_57 (260, 14274) rfl ?_
  refine x_dup C dX11_init_120 121 rfl rfl ?_
  refine x_aload_n C dX11_init_121 122 rfl 0 rfl rfl ?_
  obtain ⟨v122_60, hv122_60, hf⟩ := x_bind hf
  refine x_getR C dX11_init_122 125 rfl hv122_60 cl10 rfl w518 ?_
  obtain ⟨v125_61, hv125_61, hf⟩ := x_bind hf
  refine x_getR C dX11_init_125 128 rfl hv125_61 cl2 rfl w235 ?_
  refine x_iconst C dX11_init_128 129 rfl 0 (by decide) ?_
  obtain ⟨σ129_63, hσ129_63, hf⟩ := x_bind hf
  refine a_init C O dX11_init_129 132 rfl rfl (cX6_initc hσ129_63) kX6_init kiX6_init w364 ⟨rfl, rfl⟩ ⟨Nat.le_of_ble_eq_true rfl, Nat.le_of_ble_eq_true rfl⟩ ⟨Nat.le_of_ble_eq_true rfl, Nat.le_of_ble_eq_true rfl⟩ rfl rfl (Nat.le_of_ble_eq_true rfl) (263, 15186) rfl ?_
  obtain ⟨σ132_64, hσ132_64, hf⟩ := x_bind hf
  refine a_putF C O dX11_init_132 135 rfl hσ132_64 cl10 rfl w525 rfl rfl rfl rfl ?_
  refine x_aload_n C dX11_init_135 136 rfl 0 rfl rfl ?_
  obtain ⟨σ136_66, eσ136_66, hf⟩ := xlet_some hf
  refine a_new C O dX11_init_136 139 rfl cl6 w362 w363 w135 [.null, .int 0, .null, .null, .int 0, .int 0, .int 0, .int 0, .null, .int 0] df6 (h + 263) rfl ⟨Nat.le_of_ble_eq_true rfl, Nat.le_of_ble_eq_true rfl⟩ eσ136_66 (264, 15196) rfl ?_
  refine x_dup C dX11_init_139 140 rfl rfl ?_
  refine x_aload_n C dX11_init_140 141 rfl 0 rfl rfl ?_
  obtain ⟨v141_69, hv141_69, hf⟩ := x_bind hf
  refine x_getR C dX11_init_141 144 rfl hv141_69 cl10 rfl w518 ?_
  obtain ⟨v144_70, hv144_70, hf⟩ := x_bind hf
  refine x_getR C dX11_init_144 147 rfl hv144_70 cl2 rfl w235 ?_
  refine x_iconst C dX11_init_147 148 rfl 0 (by decide) ?_
  obtain ⟨σ148_72, hσ148_72, hf⟩ := x_bind hf
  refine a_init C O dX11_init_148 151 rfl rfl (cX6_initc hσ148_72) kX6_init kiX6_init w364 ⟨rfl, rfl⟩ ⟨Nat.le_of_ble_eq_true rfl, Nat.le_of_ble_eq_true rfl⟩ ⟨Nat.le_of_ble_eq_true rfl, Nat.le_of_ble_eq_true rfl⟩ rfl rfl (Nat.le_of_ble_eq_true rfl) (267, 16108) rfl ?_
  obtain ⟨σ151_73, hσ151_73, hf⟩ := x_bind hf
  refine a_putF C O dX11_init_151 154 rfl hσ151_73 cl10 rfl w526 rfl rfl rfl rfl ?_
  refine x_aload_n C dX11_init_154 155 rfl 0 rfl rfl ?_
  obtain ⟨σ155_75, eσ155_75, hf⟩ := xlet_some hf
  refine a_new C O dX11_init_155 158 rfl cl6 w362 w363 w135 [.null, .int 0, .null, .null, .int 0, .int 0, .int 0, .int 0, .null, .int 0] df6 (h + 267) rfl ⟨Nat.le_of_ble_eq_true rfl, Nat.le_of_ble_eq_true rfl⟩ eσ155_75 (268, 16118) rfl ?_
  refine x_dup C dX11_init_158 159 rfl rfl ?_
  refine x_aload_n C dX11_init_159 160 rfl 0 rfl rfl ?_
  obtain ⟨v160_78, hv160_78, hf⟩ := x_bind hf
  refine x_getR C dX11_init_160 163 rfl hv160_78 cl10 rfl w518 ?_
  obtain ⟨v163_79, hv163_79, hf⟩ := x_bind hf
  refine x_getR C dX11_init_163 166 rfl hv163_79 cl2 rfl w235 ?_
  refine x_iconst C dX11_init_166 167 rfl 1 (by decide) ?_
  obtain ⟨σ167_81, hσ167_81, hf⟩ := x_bind hf
  refine a_init C O dX11_init_167 170 rfl rfl (cX6_initc hσ167_81) kX6_init kiX6_init w364 ⟨rfl, rfl⟩ ⟨Nat.le_of_ble_eq_true rfl, Nat.le_of_ble_eq_true rfl⟩ ⟨Nat.le_of_ble_eq_true rfl, Nat.le_of_ble_eq_true rfl⟩ rfl rfl (Nat.le_of_ble_eq_true rfl) (271, 17030) rfl ?_
  obtain ⟨σ170_82, hσ170_82, hf⟩ := x_bind hf
  refine a_putF C O dX11_init_170 173 rfl hσ170_82 cl10 rfl w527 rfl rfl rfl rfl ?_
  refine x_aload_n C dX11_init_173 174 rfl 0 rfl rfl ?_
  obtain ⟨σ174_84, eσ174_84, hf⟩ := xlet_some hf
  refine a_new C O dX11_init_174 177 rfl cl1 w405 w406 w136 [.null, .null, .int 0, .null, .null, .null] df1 (h + 271) rfl ⟨Nat.le_of_ble_eq_true rfl, Nat.le_of_ble_eq_true rfl⟩ eσ174_84 (272, 17036) rfl ?_
  refine x_dup C dX11_init_177 178 rfl rfl ?_
  refine x_aload_n C dX11_init_178 179 rfl 0 rfl rfl ?_
  obtain ⟨v179_87, hv179_87, hf⟩ := x_bind hf
  refine x_getR C dX11_init_179 182 rfl hv179_87 cl10 rfl w518 ?_
  obtain ⟨v182_88, hv182_88, hf⟩ := x_bind hf
  refine x_getR C dX11_init_182 185 rfl hv182_88 cl2 rfl w235 ?_
  obtain ⟨σ185_89, hσ185_89, hf⟩ := x_bind hf
  refine a_init C O dX11_init_185 188 rfl rfl (cX1_initc hσ185_89) kX1_init kiX1_init w407 ⟨rfl, rfl⟩ ⟨Nat.le_of_ble_eq_true rfl, Nat.le_of_ble_eq_true rfl⟩ ⟨Nat.le_of_ble_eq_true rfl, Nat.le_of_ble_eq_true rfl⟩ rfl rfl (Nat.le_of_ble_eq_true rfl) (276, 17716) rfl ?_
  obtain ⟨σ188_90, hσ188_90, hf⟩ := x_bind hf
  refine a_putF C O dX11_init_188 191 rfl hσ188_90 cl10 rfl w528 rfl rfl rfl rfl ?_
  refine x_aload_n C dX11_init_191 192 rfl 0 rfl rfl ?_
  obtain ⟨σ192_92, eσ192_92, hf⟩ := xlet_some hf
  refine a_new C O dX11_init_192 195 rfl cl4 w430 w431 w137 [.null, .int 0, .long 0, .long 0] df4 (h + 276) rfl ⟨Nat.le_of_ble_eq_true rfl, Nat.le_of_ble_eq_true rfl⟩ eσ192_92 (277, 17720) rfl ?_
  refine x_dup C dX11_init_195 196 rfl rfl ?_
  obtain ⟨σ196_94, hσ196_94, hf⟩ := x_bind hf
  refine a_initN C O dX11_init_196 199 rfl rfl (cX4_initc hσ196_94) kX4_init kiX4_init (List.mem_of_getElem? (i := 2) rfl) ⟨rfl, rfl⟩ ⟨Nat.le_of_ble_eq_true rfl, Nat.le_of_ble_eq_true rfl⟩ ⟨Nat.le_of_ble_eq_true rfl, Nat.le_of_ble_eq_true rfl⟩ rfl rfl (Nat.le_of_ble_eq_true rfl) (278, 17725) rfl ?_
  obtain ⟨σ199_95, hσ199_95, hf⟩ := x_bind hf
  refine a_putF C O dX11_init_199 202 rfl hσ199_95 cl10 rfl w529 rfl rfl rfl rfl ?_
  refine x_aload_n C dX11_init_202 203 rfl 0 rfl rfl ?_
  obtain ⟨σ203_97, eσ203_97, hf⟩ := xlet_some hf
  refine a_new C O dX11_init_203 206 rfl cl4 w430 w431 w137 [.null, .int 0, .long 0, .long 0] df4 (h + 278) rfl ⟨Nat.le_of_ble_eq_true rfl, Nat.le_of_ble_eq_true rfl⟩ eσ203_97 (279, 17729) rfl ?_
  refine x_dup C dX11_init_206 207 rfl rfl ?_
  obtain ⟨σ207_99, hσ207_99, hf⟩ := x_bind hf
  refine a_initN C O dX11_init_207 210 rfl rfl (cX4_initc hσ207_99) kX4_init kiX4_init (List.mem_of_getElem? (i := 2) rfl) ⟨rfl, rfl⟩ ⟨Nat.le_of_ble_eq_true rfl, Nat.le_of_ble_eq_true rfl⟩ ⟨Nat.le_of_ble_eq_true rfl, Nat.le_of_ble_eq_true rfl⟩ rfl rfl (Nat.le_of_ble_eq_true rfl) (280, 17734) rfl ?_
  obtain ⟨σ210_100, hσ210_100, hf⟩ := x_bind hf
  refine a_putF C O dX11_init_210 213 rfl hσ210_100 cl10 rfl w530 rfl rfl rfl rfl ?_
  refine x_aload_n C dX11_init_213 214 rfl 0 rfl rfl ?_
  obtain ⟨σ214_102, eσ214_102, hf⟩ := xlet_some hf
  refine a_new C O dX11_init_214 217 rfl cl3 w451 w452 w138 [.null, .int 0, .int 0, .null, .int 0, .int 0, .null, .null, .null, .null, .null, .null, .null, .null, .null, .null, .null] df3 (h + 280) rfl ⟨Nat.le_of_ble_eq_true rfl, Nat.le_of_ble_eq_true rfl⟩ eσ214_102 (281, 17751) rfl ?_
  refine x_dup C dX11_init_217 218 rfl rfl ?_
  refine x_aload_n C dX11_init_218 219 rfl 0 rfl rfl ?_
  obtain ⟨v219_105, hv219_105, hf⟩ := x_bind hf
  refine x_getR C dX11_init_219 222 rfl hv219_105 cl10 rfl w518 ?_
  obtain ⟨σ222_106, hσ222_106, hf⟩ := x_bind hf
  refine a_init C O dX11_init_222 225 rfl rfl (cX3_initc hσ222_106) kX3_init kiX3_init w453 ⟨rfl, rfl⟩ ⟨Nat.le_of_ble_eq_true rfl, Nat.le_of_ble_eq_true rfl⟩ ⟨Nat.le_of_ble_eq_true rfl, Nat.le_of_ble_eq_true rfl⟩ rfl rfl (Nat.le_of_ble_eq_true rfl) (293, 20679) rfl ?_
  obtain ⟨σ225_107, hσ225_107, hf⟩ := x_bind hf
  refine a_putF C O dX11_init_225 228 rfl hσ225_107 cl10 rfl w531 rfl rfl rfl rfl ?_
  refine x_aload_n C dX11_init_228 229 rfl 0 rfl rfl ?_
  obtain ⟨σ229_109, eσ229_109, hf⟩ := xlet_some hf
  refine a_new C O dX11_init_229 232 rfl cl3 w451 w452 w138 [.null, .int 0, .int 0, .null, .int 0, .int 0, .null, .null, .null, .null, .null, .null, .null, .null, .null, .null, .null] df3 (h + 293) rfl ⟨Nat.le_of_ble_eq_true rfl, Nat.le_of_ble_eq_true rfl⟩ eσ229_109 (294, 20696) rfl ?_
  refine x_dup C dX11_init_232 233 rfl rfl ?_
  refine x_aload_n C dX11_init_233 234 rfl 0 rfl rfl ?_
  obtain ⟨v234_112, hv234_112, hf⟩ := x_bind hf
  refine x_getR C dX11_init_234 237 rfl hv234_112 cl10 rfl w518 ?_
  obtain ⟨σ237_113, hσ237_113, hf⟩ := x_bind hf
  refine a_init C O dX11_init_237 240 rfl rfl (cX3_initc hσ237_113) kX3_init kiX3_init w453 ⟨rfl, rfl⟩ ⟨Nat.le_of_ble_eq_true rfl, Nat.le_of_ble_eq_true rfl⟩ ⟨Nat.le_of_ble_eq_true rfl, Nat.le_of_ble_eq_true rfl⟩ rfl rfl (Nat.le_of_ble_eq_true rfl) (306, 23624) rfl ?_
  obtain ⟨σ240_114, hσ240_114, hf⟩ := x_bind hf
  refine a_putF C O dX11_init_240 243 rfl hσ240_114 cl10 rfl w532 rfl rfl rfl rfl ?_
  refine x_aload_n C dX11_init_243 244 rfl 0 rfl rfl ?_
  refine x_sipush C dX11_init_244 247 rfl 430 (by decide) ?_
  obtain ⟨σ247_117, eσ247_117, hf⟩ := xlet_some hf
  refine a_newI C O dX11_init_247 249 rfl w232 (by decide) (N := 430) (by decide) (Nat.le_of_ble_eq_true rfl) (h + 306) rfl ⟨Nat.le_of_ble_eq_true rfl, Nat.le_of_ble_eq_true rfl⟩ eσ247_117 (307, 24054) rfl ?_
  obtain ⟨σ249_118, hσ249_118, hf⟩ := x_bind hf
  refine a_putF C O dX11_init_249 252 rfl hσ249_118 cl10 rfl w533 rfl rfl rfl rfl ?_
  refine x_aload_n C dX11_init_252 253 rfl 0 rfl rfl ?_
  refine x_iconst C dX11_init_253 254 rfl 0 (by decide) ?_
  obtain ⟨σ254_121, hσ254_121, hf⟩ := x_bind hf
  refine x_putX C dX11_init_254 257 rfl hσ254_121 cl10 rfl w534 rfl rfl rfl ?_
  exact a_vret C O (hE _ (Option.some.inj hf).symm) rfl dX11_init_257
theorem dX12_init_0 : decode cX12_init 0 = .ok (.aload_n 0, 1) := by decide +kernel
theorem dX12_init_1 : decode cX12_init 1 = .ok (.invokespecial 7, 3) := by decide +kernel
theorem dX12_init_4 : decode cX12_init 4 = .ok (.aload_n 0, 1) := by decide +kernel
theorem dX12_init_5 : decode cX12_init 5 = .ok (.sipush 294, 3) := by decide +kernel
theorem dX12_init_8 : decode cX12_init 8 = .ok (.newarray .long, 2) := by decide +kernel
theorem dX12_init_10 : decode cX12_init 10 = .ok (.putfield 13, 3) := by decide +kernel
theorem dX12_init_13 : decode cX12_init 13 = .ok (.aload_n 0, 1) := by decide +kernel
theorem dX12_init_14 : decode cX12_init 14 = .ok (.sipush 5880, 3) := by decide +kernel
theorem dX12_init_17 : decode cX12_init 17 = .ok (.newarray .long, 2) := by decide +kernel
theorem dX12_init_19 : decode cX12_init 19 = .ok (.putfield 17, 3) := by decide +kernel
theorem dX12_init_22 : decode cX12_init 22 = .ok (.aload_n 0, 1) := by decide +kernel
theorem dX12_init_23 : decode cX12_init 23 = .ok (.sipush 294, 3) := by decide +kernel
theorem dX12_init_26 : decode cX12_init 26 = .ok (.newarray .long, 2) := by decide +kernel
theorem dX12_init_28 : decode cX12_init 28 = .ok (.putfield 20, 3) := by decide +kernel
theorem dX12_init_31 : decode cX12_init 31 = .ok (.aload_n 0, 1) := by decide +kernel
theorem dX12_init_32 : decode cX12_init 32 = .ok (.sipush 300, 3) := by decide +kernel
theorem dX12_init_35 : decode cX12_init 35 = .ok (.newarray .byte, 2) := by decide +kernel
theorem dX12_init_37 : decode cX12_init 37 = .ok (.putfield 23, 3) := by decide +kernel
theorem dX12_init_40 : decode cX12_init 40 = .ok (.aload_n 0, 1) := by decide +kernel
theorem dX12_init_41 : decode cX12_init 41 = .ok (.iconst (-1), 1) := by decide +kernel
theorem dX12_init_42 : decode cX12_init 42 = .ok (.putfield 27, 3) := by decide +kernel
theorem dX12_init_45 : decode cX12_init 45 = .ok (.aload_n 0, 1) := by decide +kernel
theorem dX12_init_46 : decode cX12_init 46 = .ok (.sipush 294, 3) := by decide +kernel
theorem dX12_init_49 : decode cX12_init 49 = .ok (.newarray .long, 2) := by decide +kernel
theorem dX12_init_51 : decode cX12_init 51 = .ok (.putfield 30, 3) := by decide +kernel
theorem dX12_init_54 : decode cX12_init 54 = .ok (.aload_n 0, 1) := by decide +kernel
theorem dX12_init_55 : decode cX12_init 55 = .ok (.bipush 61, 2) := by decide +kernel
theorem dX12_init_57 : decode cX12_init 57 = .ok (.newarray .long, 2) := by decide +kernel
theorem dX12_init_59 : decode cX12_init 59 = .ok (.putfield 33, 3) := by decide +kernel
theorem dX12_init_62 : decode cX12_init 62 = .ok (.aload_n 0, 1) := by decide +kernel
theorem dX12_init_63 : decode cX12_init 63 = .ok (.bipush 60, 2) := by decide +kernel
theorem dX12_init_65 : decode cX12_init 65 = .ok (.newarray .int, 2) := by decide +kernel
theorem dX12_init_67 : decode cX12_init 67 = .ok (.putfield 36, 3) := by decide +kernel
theorem dX12_init_70 : decode cX12_init 70 = .ok (.aload_n 0, 1) := by decide +kernel
theorem dX12_init_71 : decode cX12_init 71 = .ok (.bipush 60, 2) := by decide +kernel
theorem dX12_init_73 : decode cX12_init 73 = .ok (.newarray .int, 2) := by decide +kernel
theorem dX12_init_75 : decode cX12_init 75 = .ok (.putfield 40, 3) := by decide +kernel
theorem dX12_init_78 : decode cX12_init 78 = .ok (.aload_n 0, 1) := by decide +kernel
theorem dX12_init_79 : decode cX12_init 79 = .ok (.sipush 400, 3) := by decide +kernel
theorem dX12_init_82 : decode cX12_init 82 = .ok (.newarray .long, 2) := by decide +kernel
theorem dX12_init_84 : decode cX12_init 84 = .ok (.putfield 43, 3) := by decide +kernel
theorem dX12_init_87 : decode cX12_init 87 = .ok (.aload_n 0, 1) := by decide +kernel
theorem dX12_init_88 : decode cX12_init 88 = .ok (.sipush 400, 3) := by decide +kernel
theorem dX12_init_91 : decode cX12_init 91 = .ok (.newarray .int, 2) := by decide +kernel
theorem dX12_init_93 : decode cX12_init 93 = .ok (.putfield 46, 3) := by decide +kernel
theorem dX12_init_96 : decode cX12_init 96 = .ok (.aload_n 0, 1) := by decide +kernel
theorem dX12_init_97 : decode cX12_init 97 = .ok (.iconst 2, 1) := by decide +kernel
theorem dX12_init_98 : decode cX12_init 98 = .ok (.newarray .int, 2) := by decide +kernel
theorem dX12_init_100 : decode cX12_init 100 = .ok (.putfield 49, 3) := by decide +kernel
theorem dX12_init_103 : decode cX12_init 103 = .ok (.aload_n 0, 1) := by decide +kernel
theorem dX12_init_104 : decode cX12_init 104 = .ok (.iconst 5, 1) := by decide +kernel
theorem dX12_init_105 : decode cX12_init 105 = .ok (.newarray .int, 2) := by decide +kernel
theorem dX12_init_107 : decode cX12_init 107 = .ok (.putfield 52, 3) := by decide +kernel
theorem dX12_init_110 : decode cX12_init 110 = .ok (.aload_n 0, 1) := by decide +kernel
theorem dX12_init_111 : decode cX12_init 111 = .ok (.iconst 5, 1) := by decide +kernel
theorem dX12_init_112 : decode cX12_init 112 = .ok (.newarray .int, 2) := by decide +kernel
theorem dX12_init_114 : decode cX12_init 114 = .ok (.putfield 55, 3) := by decide +kernel
theorem dX12_init_117 : decode cX12_init 117 = .ok (.aload_n 0, 1) := by decide +kernel
theorem dX12_init_118 : decode cX12_init 118 = .ok (.bipush 32, 2) := by decide +kernel
theorem dX12_init_120 : decode cX12_init 120 = .ok (.newarray .int, 2) := by decide +kernel
theorem dX12_init_122 : decode cX12_init 122 = .ok (.putfield 58, 3) := by decide +kernel
theorem dX12_init_125 : decode cX12_init 125 = .ok (.aload_n 0, 1) := by decide +kernel
theorem dX12_init_126 : decode cX12_init 126 = .ok (.bipush 32, 2) := by decide +kernel
theorem dX12_init_128 : decode cX12_init 128 = .ok (.newarray .int, 2) := by decide +kernel
theorem dX12_init_130 : decode cX12_init 130 = .ok (.putfield 61, 3) := by decide +kernel
theorem dX12_init_133 : decode cX12_init 133 = .ok (.aload_n 0, 1) := by decide +kernel
theorem dX12_init_134 : decode cX12_init 134 = .ok (.sipush 500, 3) := by decide +kernel
theorem dX12_init_137 : decode cX12_init 137 = .ok (.newarray .byte, 2) := by decide +kernel
theorem dX12_init_139 : decode cX12_init 139 = .ok (.putfield 64, 3) := by decide +kernel
theorem dX12_init_142 : decode cX12_init 142 = .ok (.aload_n 0, 1) := by decide +kernel
theorem dX12_init_143 : decode cX12_init 143 = .ok (.sipush 700, 3) := by decide +kernel
theorem dX12_init_146 : decode cX12_init 146 = .ok (.newarray .int, 2) := by decide +kernel
theorem dX12_init_148 : decode cX12_init 148 = .ok (.putfield 67, 3) := by decide +kernel
theorem dX12_init_151 : decode cX12_init 151 = .ok (.aload_n 0, 1) := by decide +kernel
theorem dX12_init_152 : decode cX12_init 152 = .ok (.sipush 700, 3) := by decide +kernel
theorem dX12_init_155 : decode cX12_init 155 = .ok (.newarray .int, 2) := by decide +kernel
theorem dX12_init_157 : decode cX12_init 157 = .ok (.putfield 70, 3) := by decide +kernel
theorem dX12_init_160 : decode cX12_init 160 = .ok (.aload_n 0, 1) := by decide +kernel
theorem dX12_init_161 : decode cX12_init 161 = .ok (.sipush 640, 3) := by decide +kernel
theorem dX12_init_164 : decode cX12_init 164 = .ok (.newarray .int, 2) := by decide +kernel
theorem dX12_init_166 : decode cX12_init 166 = .ok (.putfield 73, 3) := by decide +kernel
theorem dX12_init_169 : decode cX12_init 169 = .ok (.aload_n 0, 1) := by decide +kernel
theorem dX12_init_170 : decode cX12_init 170 = .ok (.bipush 40, 2) := by decide +kernel
theorem dX12_init_172 : decode cX12_init 172 = .ok (.newarray .int, 2) := by decide +kernel
theorem dX12_init_174 : decode cX12_init 174 = .ok (.putfield 76, 3) := by decide +kernel
theorem dX12_init_177 : decode cX12_init 177 = .ok (.aload_n 0, 1) := by decide +kernel
theorem dX12_init_178 : decode cX12_init 178 = .ok (.bipush 40, 2) := by decide +kernel
theorem dX12_init_180 : decode cX12_init 180 = .ok (.newarray .int, 2) := by decide +kernel
theorem dX12_init_182 : decode cX12_init 182 = .ok (.putfield 79, 3) := by decide +kernel
theorem dX12_init_185 : decode cX12_init 185 = .ok (.aload_n 0, 1) := by decide +kernel
theorem dX12_init_186 : decode cX12_init 186 = .ok (.bipush 40, 2) := by decide +kernel
theorem dX12_init_188 : decode cX12_init 188 = .ok (.newarray .int, 2) := by decide +kernel
theorem dX12_init_190 : decode cX12_init 190 = .ok (.putfield 82, 3) := by decide +kernel
theorem dX12_init_193 : decode cX12_init 193 = .ok (.aload_n 0, 1) := by decide +kernel
theorem dX12_init_194 : decode cX12_init 194 = .ok (.bipush 40, 2) := by decide +kernel
theorem dX12_init_196 : decode cX12_init 196 = .ok (.newarray .int, 2) := by decide +kernel
theorem dX12_init_198 : decode cX12_init 198 = .ok (.putfield 85, 3) := by decide +kernel
theorem dX12_init_201 : decode cX12_init 201 = .ok (.aload_n 0, 1) := by decide +kernel
theorem dX12_init_202 : decode cX12_init 202 = .ok (.bipush 40, 2) := by decide +kernel
theorem dX12_init_204 : decode cX12_init 204 = .ok (.newarray .int, 2) := by decide +kernel
theorem dX12_init_206 : decode cX12_init 206 = .ok (.putfield 88, 3) := by decide +kernel
theorem dX12_init_209 : decode cX12_init 209 = .ok (.aload_n 0, 1) := by decide +kernel
theorem dX12_init_210 : decode cX12_init 210 = .ok (.bipush 40, 2) := by decide +kernel
theorem dX12_init_212 : decode cX12_init 212 = .ok (.newarray .int, 2) := by decide +kernel
theorem dX12_init_214 : decode cX12_init 214 = .ok (.putfield 91, 3) := by decide +kernel
theorem dX12_init_217 : decode cX12_init 217 = .ok (.aload_n 0, 1) := by decide +kernel
theorem dX12_init_218 : decode cX12_init 218 = .ok (.bipush 40, 2) := by decide +kernel
theorem dX12_init_220 : decode cX12_init 220 = .ok (.newarray .int, 2) := by decide +kernel
theorem dX12_init_222 : decode cX12_init 222 = .ok (.putfield 94, 3) := by decide +kernel
theorem dX12_init_225 : decode cX12_init 225 = .ok (.aload_n 0, 1) := by decide +kernel
theorem dX12_init_226 : decode cX12_init 226 = .ok (.bipush 40, 2) := by decide +kernel
theorem dX12_init_228 : decode cX12_init 228 = .ok (.newarray .int, 2) := by decide +kernel
theorem dX12_init_230 : decode cX12_init 230 = .ok (.putfield 97, 3) := by decide +kernel
theorem dX12_init_233 : decode cX12_init 233 = .ok (.aload_n 0, 1) := by decide +kernel
theorem dX12_init_234 : decode cX12_init 234 = .ok (.sipush 700, 3) := by decide +kernel
theorem dX12_init_237 : decode cX12_init 237 = .ok (.newarray .int, 2) := by decide +kernel
theorem dX12_init_239 : decode cX12_init 239 = .ok (.putfield 100, 3) := by decide +kernel
theorem dX12_init_242 : decode cX12_init 242 = .ok (.aload_n 0, 1) := by decide +kernel
theorem dX12_init_243 : decode cX12_init 243 = .ok (.bipush 40, 2) := by decide +kernel
theorem dX12_init_245 : decode cX12_init 245 = .ok (.newarray .int, 2) := by decide +kernel
theorem dX12_init_247 : decode cX12_init 247 = .ok (.putfield 103, 3) := by decide +kernel
theorem dX12_init_250 : decode cX12_init 250 = .ok (.aload_n 0, 1) := by decide +kernel
theorem dX12_init_251 : decode cX12_init 251 = .ok (.bipush 40, 2) := by decide +kernel
theorem dX12_init_253 : decode cX12_init 253 = .ok (.newarray .int, 2) := by decide +kernel
theorem dX12_init_255 : decode cX12_init 255 = .ok (.putfield 106, 3) := by decide +kernel
theorem dX12_init_258 : decode cX12_init 258 = .ok (.aload_n 0, 1) := by decide +kernel
theorem dX12_init_259 : decode cX12_init 259 = .ok (.getfield 13, 3) := by decide +kernel
theorem dX12_init_262 : decode cX12_init 262 = .ok (.iconst 2, 1) := by decide +kernel
theorem dX12_init_263 : decode cX12_init 263 = .ok (.invokestatic 109, 3) := by decide +kernel
theorem dX12_init_266 : decode cX12_init 266 = .ok (.return_, 1) := by decide +kernel
abbrev rmX12_init : Room := { frames := 1, cells := 30, slots := 11759, locals := 40 }
noncomputable def fX12_init (σ : St) (h : Nat) (x0 : Nat) : Option St :=
xlet (xu σ (h + 0) (.inl (1, 294, .inr (.inl (fun _ => 0))))) fun σ8_5 =>
(wrF σ8_5 x0 11 1 (.ref (h + 0))).bind fun σ10_6 =>
xlet (xu σ10_6 (h + 1) (.inl (1, 5880, .inr (.inl (fun _ => 0))))) fun σ17_9 =>
(wrF σ17_9 x0 11 2 (.ref (h + 1))).bind fun σ19_10 =>
xlet (xu σ19_10 (h + 2) (.inl (1, 294, .inr (.inl (fun _ => 0))))) fun σ26_13 =>
(wrF σ26_13 x0 11 3 (.ref (h + 2))).bind fun σ28_14 =>
xlet (xu σ28_14 (h + 3) (.inl (2, 300, .inl (fun _ => 0)))) fun σ35_17 =>
(wrF σ35_17 x0 11 6 (.ref (h + 3))).bind fun σ37_18 =>
(wrF σ37_18 x0 11 14 (.int ((-1)))).bind fun σ42_21 =>
xlet (xu σ42_21 (h + 4) (.inl (1, 294, .inr (.inl (fun _ => 0))))) fun σ49_24 =>
(wrF σ49_24 x0 11 15 (.ref (h + 4))).bind fun σ51_25 =>
xlet (xu σ51_25 (h + 5) (.inl (1, 61, .inr (.inl (fun _ => 0))))) fun σ57_28 =>
(wrF σ57_28 x0 11 20 (.ref (h + 5))).bind fun σ59_29 =>
xlet (xu σ59_29 (h + 6) (.inl (0, 60, .inl (fun _ => 0)))) fun σ65_32 =>
(wrF σ65_32 x0 11 21 (.ref (h + 6))).bind fun σ67_33 =>
xlet (xu σ67_33 (h + 7) (.inl (0, 60, .inl (fun _ => 0)))) fun σ73_36 =>
(wrF σ73_36 x0 11 22 (.ref (h + 7))).bind fun σ75_37 =>
xlet (xu σ75_37 (h + 8) (.inl (1, 400, .inr (.inl (fun _ => 0))))) fun σ82_40 =>
(wrF σ82_40 x0 11 25 (.ref (h + 8))).bind fun σ84_41 =>
xlet (xu σ84_41 (h + 9) (.inl (0, 400, .inl (fun _ => 0)))) fun σ91_44 =>
(wrF σ91_44 x0 11 26 (.ref (h + 9))).bind fun σ93_45 =>
xlet (xu σ93_45 (h + 10) (.inl (0, 2, .inl (fun _ => 0)))) fun σ98_48 =>
(wrF σ98_48 x0 11 27 (.ref (h + 10))).bind fun σ100_49 =>
xlet (xu σ100_49 (h + 11) (.inl (0, 5, .inl (fun _ => 0)))) fun σ105_52 =>
(wrF σ105_52 x0 11 35 (.ref (h + 11))).bind fun σ107_53 =>
xlet (xu σ107_53 (h + 12) (.inl (0, 5, .inl (fun _ => 0)))) fun σ112_56 =>
(wrF σ112_56 x0 11 36 (.ref (h + 12))).bind fun σ114_57 =>
xlet (xu σ114_57 (h + 13) (.inl (0, 32, .inl (fun _ => 0)))) fun σ120_60 =>
(wrF σ120_60 x0 11 37 (.ref (h + 13))).bind fun σ122_61 =>
xlet (xu σ122_61 (h + 14) (.inl (0, 32, .inl (fun _ => 0)))) fun σ128_64 =>
(wrF σ128_64 x0 11 38 (.ref (h + 14))).bind fun σ130_65 =>
xlet (xu σ130_65 (h + 15) (.inl (2, 500, .inl (fun _ => 0)))) fun σ137_68 =>
(wrF σ137_68 x0 11 40 (.ref (h + 15))).bind fun σ139_69 =>
xlet (xu σ139_69 (h + 16) (.inl (0, 700, .inl (fun _ => 0)))) fun σ146_72 =>
(wrF σ146_72 x0 11 42 (.ref (h + 16))).bind fun σ148_73 =>
xlet (xu σ148_73 (h + 17) (.inl (0, 700, .inl (fun _ => 0)))) fun σ155_76 =>
(wrF σ155_76 x0 11 43 (.ref (h + 17))).bind fun σ157_77 =>
xlet (xu σ157_77 (h + 18) (.inl (0, 640, .inl (fun _ => 0)))) fun σ164_80 =>
(wrF σ164_80 x0 11 45 (.ref (h + 18))).bind fun σ166_81 =>
xlet (xu σ166_81 (h + 19) (.inl (0, 40, .inl (fun _ => 0)))) fun σ172_84 =>
(wrF σ172_84 x0 11 46 (.ref (h + 19))).bind fun σ174_85 =>
xlet (xu σ174_85 (h + 20) (.inl (0, 40, .inl (fun _ => 0)))) fun σ180_88 =>
(wrF σ180_88 x0 11 47 (.ref (h + 20))).bind fun σ182_89 =>
xlet (xu σ182_89 (h + 21) (.inl (0, 40, .inl (fun _ => 0)))) fun σ188_92 =>
(wrF σ188_92 x0 11 48 (.ref (h + 21))).bind fun σ190_93 =>
xlet (xu σ190_93 (h + 22) (.inl (0, 40, .inl (fun _ => 0)))) fun σ196_96 =>
(wrF σ196_96 x0 11 49 (.ref (h + 22))).bind fun σ198_97 =>
xlet (xu σ198_97 (h + 23) (.inl (0, 40, .inl (fun _ => 0)))) fun σ204_100 =>
(wrF σ204_100 x0 11 50 (.ref (h + 23))).bind fun σ206_101 =>
xlet (xu σ206_101 (h + 24) (.inl (0, 40, .inl (fun _ => 0)))) fun σ212_104 =>
(wrF σ212_104 x0 11 51 (.ref (h + 24))).bind fun σ214_105 =>
xlet (xu σ214_105 (h + 25) (.inl (0, 40, .inl (fun _ => 0)))) fun σ220_108 =>
(wrF σ220_108 x0 11 52 (.ref (h + 25))).bind fun σ222_109 =>
xlet (xu σ222_109 (h + 26) (.inl (0, 40, .inl (fun _ => 0)))) fun σ228_112 =>
(wrF σ228_112 x0 11 53 (.ref (h + 26))).bind fun σ230_113 =>
xlet (xu σ230_113 (h + 27) (.inl (0, 700, .inl (fun _ => 0)))) fun σ237_116 =>
(wrF σ237_116 x0 11 54 (.ref (h + 27))).bind fun σ239_117 =>
xlet (xu σ239_117 (h + 28) (.inl (0, 40, .inl (fun _ => 0)))) fun σ245_120 =>
(wrF σ245_120 x0 11 56 (.ref (h + 28))).bind fun σ247_121 =>
xlet (xu σ247_121 (h + 29) (.inl (0, 40, .inl (fun _ => 0)))) fun σ253_124 =>
(wrF σ253_124 x0 11 57 (.ref (h + 29))).bind fun σ255_125 =>
(gR σ255_125 x0 11 1).bind fun v259_127 =>
(fX12_clears σ255_125 v259_127 2).bind fun w263_129 =>
some w263_129
set_option maxHeartbeats 4000000 in
set_option maxRecDepth 100000 in
theorem cX12_initc {l : Launch} {G : xG} {A : Nat → Prop} {σ : St} {h : Nat} {x0 : Nat} {c : St} (hf : fX12_init σ h x0 = some c) : ConA l yX12_init (xws yX12_init cX12_init 1 none) rmX12_init 30 11759 [.ref (x0)] G A σ h c := by
  refine a_start rfl rfl (Nat.le_of_ble_eq_true rfl) (fun X _ _ _ C O hE0 => ?_)
  have hE : ∀ r, c = r → aE X 30 11759 (h + 30) r := fun r e => e ▸ hE0
  show V X (0, 0) σ 0 [(0, .ref (x0))] []
  unfold fX12_init at hf
  refine x_aload_n C dX12_init_0 1 rfl 0 rfl rfl ?_
  refine a_obj C dX12_init_1 4 rfl w1439 objw ⟨Nat.le_of_ble_eq_true rfl, Nat.le_of_ble_eq_true rfl⟩ ?_
  refine x_aload_n C dX12_init_4 5 rfl 0 rfl rfl ?_
  refine x_sipush C dX12_init_5 8 rfl 294 (by decide) ?_
  obtain ⟨σ8_5, eσ8_5, hf⟩ := xlet_some hf
  refine a_newL C O dX12_init_8 10 rfl w233 (by decide) (N := 294) (by decide) (Nat.le_of_ble_eq_true rfl) (h + 0) rfl ⟨Nat.le_of_ble_eq_true rfl, Nat.le_of_ble_eq_true rfl⟩ eσ8_5 (1, 294) rfl ?_
  obtain ⟨σ10_6, hσ10_6, hf⟩ := x_bind hf
  refine a_putF C O dX12_init_10 13 rfl hσ10_6 cl11 rfl w1444 rfl rfl rfl rfl ?_
  refine x_aload_n C dX12_init_13 14 rfl 0 rfl rfl ?_
  refine x_sipush C dX12_init_14 17 rfl 5880 (by decide) ?_
  obtain ⟨σ17_9, eσ17_9, hf⟩ := xlet_some hf
  refine a_newL C O dX12_init_17 19 rfl w233 (by decide) (N := 5880) (by decide) (Nat.le_of_ble_eq_true rfl) (h + 1) rfl ⟨Nat.le_of_ble_eq_true rfl, Nat.le_of_ble_eq_true rfl⟩ eσ17_9 (2, 6174) rfl ?_
  obtain ⟨σ19_10, hσ19_10, hf⟩ := x_bind hf
  refine a_putF C O dX12_init_19 22 rfl hσ19_10 cl11 rfl w1445 rfl rfl rfl rfl ?_
  refine x_aload_n C dX12_init_22 23 rfl 0 rfl rfl ?_
  refine x_sipush C dX12_init_23 26 rfl 294 (by decide) ?_
  obtain ⟨σ26_13, eσ26_13, hf⟩ := xlet_some hf
  refine a_newL C O dX12_init_26 28 rfl w233 (by decide) (N := 294) (by decide) (Nat.le_of_ble_eq_true rfl) (h + 2) rfl ⟨Nat.le_of_ble_eq_true rfl, Nat.le_of_ble_eq_true rfl⟩ eσ26_13 (3, 6468) rfl ?_
  obtain ⟨σ28_14, hσ28_14, hf⟩ := x_bind hf
  refine a_putF C O dX12_init_28 31 rfl hσ28_14 cl11 rfl w1446 rfl rfl rfl rfl ?_
  refine x_aload_n C dX12_init_31 32 rfl 0 rfl rfl ?_
  refine x_sipush C dX12_init_32 35 rfl 300 (by decide) ?_
  obtain ⟨σ35_17, eσ35_17, hf⟩ := xlet_some hf
  refine a_newB C O dX12_init_35 37 rfl w361 (by decide) (N := 300) (by decide) (Nat.le_of_ble_eq_true rfl) (h + 3) rfl ⟨Nat.le_of_ble_eq_true rfl, Nat.le_of_ble_eq_true rfl⟩ eσ35_17 (4, 6768) rfl ?_
  obtain ⟨σ37_18, hσ37_18, hf⟩ := x_bind hf
  refine a_putF C O dX12_init_37 40 rfl hσ37_18 cl11 rfl w1449 rfl rfl rfl rfl ?_
  refine x_aload_n C dX12_init_40 41 rfl 0 rfl rfl ?_
  refine x_iconst C dX12_init_41 42 rfl (-1) (by decide) ?_
  obtain ⟨σ42_21, hσ42_21, hf⟩ := x_bind hf
  refine x_putX C dX12_init_42 45 rfl hσ42_21 cl11 rfl w1457 rfl rfl rfl ?_
  refine x_aload_n C dX12_init_45 46 rfl 0 rfl rfl ?_
  refine x_sipush C dX12_init_46 49 rfl 294 (by decide) ?_
  obtain ⟨σ49_24, eσ49_24, hf⟩ := xlet_some hf
  refine a_newL C O dX12_init_49 51 rfl w233 (by decide) (N := 294) (by decide) (Nat.le_of_ble_eq_true rfl) (h + 4) rfl ⟨Nat.le_of_ble_eq_true rfl, Nat.le_of_ble_eq_true rfl⟩ eσ49_24 (5, 7062) rfl ?_
  obtain ⟨σ51_25, hσ51_25, hf⟩ := x_bind hf
  refine a_putF C O dX12_init_51 54 rfl hσ51_25 cl11 rfl w1458 rfl rfl rfl rfl ?_
  refine x_aload_n C dX12_init_54 55 rfl 0 rfl rfl ?_
  refine x_bipush C dX12_init_55 57 rfl 61 (by decide) ?_
  obtain ⟨σ57_28, eσ57_28, hf⟩ := xlet_some hf
  refine a_newL C O dX12_init_57 59 rfl w233 (by decide) (N := 61) (by decide) (Nat.le_of_ble_eq_true rfl) (h + 5) rfl ⟨Nat.le_of_ble_eq_true rfl, Nat.le_of_ble_eq_true rfl⟩ eσ57_28 (6, 7123) rfl ?_
  obtain ⟨σ59_29, hσ59_29, hf⟩ := x_bind hf
  refine a_putF C O dX12_init_59 62 rfl hσ59_29 cl11 rfl w1463 rfl rfl rfl rfl ?_
  refine x_aload_n C dX12_init_62 63 rfl 0 rfl rfl ?_
  refine x_bipush C dX12_init_63 65 rfl 60 (by decide) ?_
  obtain ⟨σ65_32, eσ65_32, hf⟩ := xlet_some hf
  refine a_newI C O dX12_init_65 67 rfl w232 (by decide) (N := 60) (by decide) (Nat.le_of_ble_eq_true rfl) (h + 6) rfl ⟨Nat.le_of_ble_eq_true rfl, Nat.le_of_ble_eq_true rfl⟩ eσ65_32 (7, 7183) rfl ?_
  obtain ⟨σ67_33, hσ67_33, hf⟩ := x_bind hf
  refine a_putF C O dX12_init_67 70 rfl hσ67_33 cl11 rfl w1464 rfl rfl rfl rfl ?_
  refine x_aload_n C dX12_init_70 71 rfl 0 rfl rfl ?_
  refine x_bipush C dX12_init_71 73 rfl 60 (by decide) ?_
  obtain ⟨σ73_36, eσ73_36, hf⟩ := xlet_some hf
  refine a_newI C O dX12_init_73 75 rfl w232 (by decide) (N := 60) (by decide) (Nat.le_of_ble_eq_true rfl) (h + 7) rfl ⟨Nat.le_of_ble_eq_true rfl, Nat.le_of_ble_eq_true rfl⟩ eσ73_36 (8, 7243) rfl ?_
  obtain ⟨σ75_37, hσ75_37, hf⟩ := x_bind hf
  refine a_putF C O dX12_init_75 78 rfl hσ75_37 cl11 rfl w1465 rfl rfl rfl rfl ?_
  refine x_aload_n C dX12_init_78 79 rfl 0 rfl rfl ?_
  refine x_sipush C dX12_init_79 82 rfl 400 (by decide) ?_
  obtain ⟨σ82_40, eσ82_40, hf⟩ := xlet_some hf
  refine a_newL C O dX12_init_82 84 rfl w233 (by decide) (N := 400) (by decide) (Nat.le_of_ble_eq_true rfl) (h + 8) rfl ⟨Nat.le_of_ble_eq_true rfl, Nat.le_of_ble_eq_true rfl⟩ eσ82_40 (9, 7643) rfl ?_
  obtain ⟨σ84_41, hσ84_41, hf⟩ := x_bind hf
  refine a_putF C O dX12_init_84 87 rfl hσ84_41 cl11 rfl w1468 rfl rfl rfl rfl ?_
  refine x_aload_n C dX12_init_87 88 rfl 0 rfl rfl ?_
  refine x_sipush C dX12_init_88 91 rfl 400 (by decide) ?_
  obtain ⟨σ91_44, eσ91_44, hf⟩ := xlet_some hf
  refine a_newI C O dX12_init_91 93 rfl w232 (by decide) (N := 400) (by decide) (Nat.le_of_ble_eq_true rfl) (h + 9) rfl ⟨Nat.le_of_ble_eq_true rfl, Nat.le_of_ble_eq_true rfl⟩ eσ91_44 (10, 8043) rfl ?_
  obtain ⟨σ93_45, hσ93_45, hf⟩ := x_bind hf
  refine a_putF C O dX12_init_93 96 rfl hσ93_45 cl11 rfl w1469 rfl rfl rfl rfl ?_
  refine x_aload_n C dX12_init_96 97 rfl 0 rfl rfl ?_
  refine x_iconst C dX12_init_97 98 rfl 2 (by decide) ?_
  obtain ⟨σ98_48, eσ98_48, hf⟩ := xlet_some hf
  refine a_newI C O dX12_init_98 100 rfl w232 (by decide) (N := 2) (by decide) (Nat.le_of_ble_eq_true rfl) (h + 10) rfl ⟨Nat.le_of_ble_eq_true rfl, Nat.le_of_ble_eq_true rfl⟩ eσ98_48 (11, 8045) rfl ?_
  obtain ⟨σ100_49, hσ100_49, hf⟩ := x_bind hf
  refine a_putF C O dX12_init_100 103 rfl hσ100_49 cl11 rfl w1470 rfl rfl rfl rfl ?_
  refine x_aload_n C dX12_init_103 104 rfl 0 rfl rfl ?_
  refine x_iconst C dX12_init_104 105 rfl 5 (by decide) ?_
  obtain ⟨σ105_52, eσ105_52, hf⟩ := xlet_some hf
  refine a_newI C O dX12_init_105 107 rfl w232 (by decide) (N := 5) (by decide) (Nat.le_of_ble_eq_true rfl) (h + 11) rfl ⟨Nat.le_of_ble_eq_true rfl, Nat.le_of_ble_eq_true rfl⟩ eσ105_52 (12, 8050) rfl ?_
  obtain ⟨σ107_53, hσ107_53, hf⟩ := x_bind hf
  refine a_putF C O dX12_init_107 110 rfl hσ107_53 cl11 rfl w1478 rfl rfl rfl rfl ?_
  refine x_aload_n C dX12_init_110 111 rfl 0 rfl rfl ?_
  refine x_iconst C dX12_init_111 112 rfl 5 (by decide) ?_
  obtain ⟨σ112_56, eσ112_56, hf⟩ := xlet_some hf
  refine a_newI C O dX12_init_112 114 rfl w232 (by decide) (N := 5) (by decide) (Nat.le_of_ble_eq_true rfl) (h + 12) rfl ⟨Nat.le_of_ble_eq_true rfl, Nat.le_of_ble_eq_true rfl⟩ eσ112_56 (13, 8055) rfl ?_
  obtain ⟨σ114_57, hσ114_57, hf⟩ := x_bind hf
  refine a_putF C O dX12_init_114 117 rfl hσ114_57 cl11 rfl w1479 rfl rfl rfl rfl ?_
  refine x_aload_n C dX12_init_117 118 rfl 0 rfl rfl ?_
  refine x_bipush C dX12_init_118 120 rfl 32 (by decide) ?_
  obtain ⟨σ120_60, eσ120_60, hf⟩ := xlet_some hf
  refine a_newI C O dX12_init_120 122 rfl w232 (by decide) (N := 32) (by decide) (Nat.le_of_ble_eq_true rfl) (h + 13) rfl ⟨Nat.le_of_ble_eq_true rfl, Nat.le_of_ble_eq_true rfl⟩ eσ120_60 (14, 8087) rfl ?_
  obtain ⟨σ122_61, hσ122_61, hf⟩ := x_bind hf
  refine a_putF C O dX12_init_122 125 rfl hσ122_61 cl11 rfl w1480 rfl rfl rfl rfl ?_
  refine x_aload_n C dX12_init_125 126 rfl 0 rfl rfl ?_
  refine x_bipush C dX12_init_126 128 rfl 32 (by decide) ?_
  obtain ⟨σ128_64, eσ128_64, hf⟩ := xlet_some hf
  refine a_newI C O dX12_init_128 130 rfl w232 (by decide) (N := 32) (by decide) (Nat.le_of_ble_eq_true rfl) (h + 14) rfl ⟨Nat.le_of_ble_eq_true rfl, Nat.le_of_ble_eq_true rfl⟩ eσ128_64 (15, 8119) rfl ?_
  obtain ⟨σ130_65, hσ130_65, hf⟩ := x_bind hf
  refine a_putF C O dX12_init_130 133 rfl hσ130_65 cl11 rfl w1481 rfl rfl rfl rfl ?_
  refine x_aload_n C dX12_init_133 134 rfl 0 rfl rfl ?_
  refine x_sipush C dX12_init_134 137 rfl 500 (by decide) ?_
  obtain ⟨σ137_68, eσ137_68, hf⟩ := xlet_some hf
  refine a_newB C O dX12_init_137 139 rfl w361 (by decide) (N := 500) (by decide) (Nat.le_of_ble_eq_true rfl) (h + 15) rfl ⟨Nat.le_of_ble_eq_true rfl, Nat.le_of_ble_eq_true rfl⟩ eσ137_68 (16, 8619) rfl ?_
  obtain ⟨σ139_69, hσ139_69, hf⟩ := x_bind hf
  refine a_putF C O dX12_init_139 142 rfl hσ139_69 cl11 rfl w1483 rfl rfl rfl rfl ?_
  refine x_aload_n C dX12_init_142 143 rfl 0 rfl rfl ?_
  refine x_sipush C dX12_init_143 146 rfl 700 (by decide) ?_
  obtain ⟨σ146_72, eσ146_72, hf⟩ := xlet_some hf
  refine a_newI C O dX12_init_146 148 rfl w232 (by decide) (N := 700) (by decide) (Nat.le_of_ble_eq_true rfl) (h + 16) rfl ⟨Nat.le_of_ble_eq_true rfl, Nat.le_of_ble_eq_true rfl⟩ eσ146_72 (17, 9319) rfl ?_
  obtain ⟨σ148_73, hσ148_73, hf⟩ := x_bind hf
  refine a_putF C O dX12_init_148 151 rfl hσ148_73 cl11 rfl w1485 rfl rfl rfl rfl ?_
  refine x_aload_n C dX12_init_151 152 rfl 0 rfl rfl ?_
  refine x_sipush C dX12_init_152 155 rfl 700 (by decide) ?_
  obtain ⟨σ155_76, eσ155_76, hf⟩ := xlet_some hf
  refine a_newI C O dX12_init_155 157 rfl w232 (by decide) (N := 700) (by decide) (Nat.le_of_ble_eq_true rfl) (h + 17) rfl ⟨Nat.le_of_ble_eq_true rfl, Nat.le_of_ble_eq_true rfl⟩ eσ155_76 (18, 10019) rfl ?_
  obtain ⟨σ157_77, hσ157_77, hf⟩ := x_bind hf
  refine a_putF C O dX12_init_157 160 rfl hσ157_77 cl11 rfl w1486 rfl rfl rfl rfl ?_
  refine x_aload_n C dX12_init_160 161 rfl 0 rfl rfl ?_
  refine x_sipush C dX12_init_161 164 rfl 640 (by decide) ?_
  obtain ⟨σ164_80, eσ164_80, hf⟩ := xlet_some hf
  refine a_newI C O dX12_init_164 166 rfl w232 (by decide) (N := 640) (by decide) (Nat.le_of_ble_eq_true rfl) (h + 18) rfl ⟨Nat.le_of_ble_eq_true rfl, Nat.le_of_ble_eq_true rfl⟩ eσ164_80 (19, 10659) rfl ?_
  obtain ⟨σ166_81, hσ166_81, hf⟩ := x_bind hf
  refine a_putF C O dX12_init_166 169 rfl hσ166_81 cl11 rfl w1488 rfl rfl rfl rfl ?_
  refine x_aload_n C dX12_init_169 170 rfl 0 rfl rfl ?_
  refine x_bipush C dX12_init_170 172 rfl 40 (by decide) ?_
  obtain ⟨σ172_84, eσ172_84, hf⟩ := xlet_some hf
  refine a_newI C O dX12_init_172 174 rfl w232 (by decide) (N := 40) (by decide) (Nat.le_of_ble_eq_true rfl) (h + 19) rfl ⟨Nat.le_of_ble_eq_true rfl, Nat.le_of_ble_eq_true rfl⟩ eσ172_84 (20, 10699) rfl ?_
  obtain ⟨σ174_85, hσ174_85, hf⟩ := x_bind hf
  refine a_putF C O dX12_init_174 177 rfl hσ174_85 cl11 rfl w1489 rfl rfl rfl rfl ?_
  refine x_aload_n C dX12_init_177 178 rfl 0 rfl rfl ?_
  refine x_bipush C dX12_init_178 180 rfl 40 (by decide) ?_
  obtain ⟨σ180_88, eσ180_88, hf⟩ := xlet_some hf
  refine a_newI C O dX12_init_180 182 rfl w232 (by decide) (N := 40) (by decide) (Nat.le_of_ble_eq_true rfl) (h + 20) rfl ⟨Nat.le_of_ble_eq_true rfl, Nat.le_of_ble_eq_true rfl⟩ eσ180_88 (21, 10739) rfl ?_
  obtain ⟨σ182_89, hσ182_89, hf⟩ := x_bind hf
  refine a_putF C O dX12_init_182 185 rfl hσ182_89 cl11 rfl w1490 rfl rfl rfl rfl ?_
  refine x_aload_n C dX12_init_185 186 rfl 0 rfl rfl ?_
  refine x_bipush C dX12_init_186 188 rfl 40 (by decide) ?_
  obtain ⟨σ188_92, eσ188_92, hf⟩ := xlet_some hf
  refine a_newI C O dX12_init_188 190 rfl w232 (by decide) (N := 40) (by decide) (Nat.le_of_ble_eq_true rfl) (h + 21) rfl ⟨Nat.le_of_ble_eq_true rfl, Nat.le_of_ble_eq_true rfl⟩ eσ188_92 (22, 10779) rfl ?_
  obtain ⟨σ190_93, hσ190_93, hf⟩ := x_bind hf
  refine a_putF C O dX12_init_190 193 rfl hσ190_93 cl11 rfl w1491 rfl rfl rfl rfl ?_
  refine x_aload_n C dX12_init_193 194 rfl 0 rfl rfl ?_
  refine x_bipush C dX12_init_194 196 rfl 40 (by decide) ?_
  obtain ⟨σ196_96, eσ196_96, hf⟩ := xlet_some hf
  refine a_newI C O dX12_init_196 198 rfl w232 (by decide) (N := 40) (by decide) (Nat.le_of_ble_eq_true rfl) (h + 22) rfl ⟨Nat.le_of_ble_eq_true rfl, Nat.le_of_ble_eq_true rfl⟩ eσ196_96 (23, 10819) rfl ?_
  obtain ⟨σ198_97, hσ198_97, hf⟩ := x_bind hf
  refine a_putF C O dX12_init_198 201 rfl hσ198_97 cl11 rfl w1492 rfl rfl rfl rfl ?_
  refine x_aload_n C dX12_init_201 202 rfl 0 rfl rfl ?_
  refine x_bipush C dX12_init_202 204 rfl 40 (by decide) ?_
  obtain ⟨σ204_100, eσ204_100, hf⟩ := xlet_some hf
  refine a_newI C O dX12_init_204 206 rfl w232 (by decide) (N := 40) (by decide) (Nat.le_of_ble_eq_true rfl) (h + 23) rfl ⟨Nat.le_of_ble_eq_true rfl, Nat.le_of_ble_eq_true rfl⟩ eσ204_100 (24, 10859) rfl ?_
  obtain ⟨σ206_101, hσ206_101, hf⟩ := x_bind hf
  refine a_putF C O dX12_init_206 209 rfl hσ206_101 cl11 rfl w1493 rfl rfl rfl rfl ?_
  refine x_aload_n C dX12_init_209 210 rfl 0 rfl rfl ?_
  refine x_bipush C dX12_init_210 212 rfl 40 (by decide) ?_
  obtain ⟨σ212_104, eσ212_104, hf⟩ := xlet_some hf
  refine a_newI C O dX12_init_212 214 rfl w232 (by decide) (N := 40) (by decide) (Nat.le_of_ble_eq_true rfl) (h + 24) rfl ⟨Nat.le_of_ble_eq_true rfl, Nat.le_of_ble_eq_true rfl⟩ eσ212_104 (25, 10899) rfl ?_
  obtain ⟨σ214_105, hσ214_105, hf⟩ := x_bind hf
  refine a_putF C O dX12_init_214 217 rfl hσ214_105 cl11 rfl w1494 rfl rfl rfl rfl ?_
  refine x_aload_n C dX12_init_217 218 rfl 0 rfl rfl ?_
  refine x_bipush C dX12_init_218 220 rfl 40 (by decide) ?_
  obtain ⟨σ220_108, eσ220_108, hf⟩ := xlet_some hf
  refine a_newI C O dX12_init_220 222 rfl w232 (by decide) (N := 40) (by decide) (Nat.le_of_ble_eq_true rfl) (h + 25) rfl ⟨Nat.le_of_ble_eq_true rfl, Nat.le_of_ble_eq_true rfl⟩ eσ220_108 (26, 10939) rfl ?_
  obtain ⟨σ222_109, hσ222_109, hf⟩ := x_bind hf
  refine a_putF C O dX12_init_222 225 rfl hσ222_109 cl11 rfl w1495 rfl rfl rfl rfl ?_
  refine x_aload_n C dX12_init_225 226 rfl 0 rfl rfl ?_
  refine x_bipush C dX12_init_226 228 rfl 40 (by decide) ?_
  obtain ⟨σ228_112, eσ228_112, hf⟩ := xlet_some hf
  refine a_newI C O dX12_init_228 230 rfl w232 (by decide) (N := 40) (by decide) (Nat.le_of_ble_eq_true rfl) (h + 26) rfl ⟨Nat.le_of_ble_eq_true rfl, Nat.le_of_ble_eq_true rfl⟩ eσ228_112 (27, 10979) rfl ?_
  obtain ⟨σ230_113, hσ230_113, hf⟩ := x_bind hf
  refine a_putF C O dX12_init_230 233 rfl hσ230_113 cl11 rfl w1496 rfl rfl rfl rfl ?_
  refine x_aload_n C dX12_init_233 234 rfl 0 rfl rfl ?_
  refine x_sipush C dX12_init_234 237 rfl 700 (by decide) ?_
  obtain ⟨σ237_116, eσ237_116, hf⟩ := xlet_some hf
  refine a_newI C O dX12_init_237 239 rfl w232 (by decide) (N := 700) (by decide) (Nat.le_of_ble_eq_true rfl) (h + 27) rfl ⟨Nat.le_of_ble_eq_true rfl, Nat.le_of_ble_eq_true rfl⟩ eσ237_116 (28, 11679) rfl ?_
  obtain ⟨σ239_117, hσ239_117, hf⟩ := x_bind hf
  refine a_putF C O dX12_init_239 242 rfl hσ239_117 cl11 rfl w1497 rfl rfl rfl rfl ?_
  refine x_aload_n C dX12_init_242 243 rfl 0 rfl rfl ?_
  refine x_bipush C dX12_init_243 245 rfl 40 (by decide) ?_
  obtain ⟨σ245_120, eσ245_120, hf⟩ := xlet_some hf
  refine a_newI C O dX12_init_245 247 rfl w232 (by decide) (N := 40) (by decide) (Nat.le_of_ble_eq_true rfl) (h + 28) rfl ⟨Nat.le_of_ble_eq_true rfl, Nat.le_of_ble_eq_true rfl⟩ eσ245_120 (29, 11719) rfl ?_
  obtain ⟨σ247_121, hσ247_121, hf⟩ := x_bind hf
  refine a_putF C O dX12_init_247 250 rfl hσ247_121 cl11 rfl w1499 rfl rfl rfl rfl ?_
  refine x_aload_n C dX12_init_250 251 rfl 0 rfl rfl ?_
  refine x_bipush C dX12_init_251 253 rfl 40 (by decide) ?_
  obtain ⟨σ253_124, eσ253_124, hf⟩ := xlet_some hf
  refine a_newI C O dX12_init_253 255 rfl w232 (by decide) (N := 40) (by decide) (Nat.le_of_ble_eq_true rfl) (h + 29) rfl ⟨Nat.le_of_ble_eq_true rfl, Nat.le_of_ble_eq_true rfl⟩ eσ253_124 (30, 11759) rfl ?_
  obtain ⟨σ255_125, hσ255_125, hf⟩ := x_bind hf
  refine a_putF C O dX12_init_255 258 rfl hσ255_125 cl11 rfl w1500 rfl rfl rfl rfl ?_
  refine x_aload_n C dX12_init_258 259 rfl 0 rfl rfl ?_
  obtain ⟨v259_127, hv259_127, hf⟩ := x_bind hf
  refine x_getR C dX12_init_259 262 rfl hv259_127 cl11 rfl w1444 ?_
  refine x_iconst C dX12_init_262 263 rfl 2 (by decide) ?_
  obtain ⟨w263_129, hw263_129, hf⟩ := x_bind hf
  refine x_callSv C dX12_init_263 266 rfl (cX12_clearsc hw263_129) kX12_clears ksX12_clears w1440 ⟨rfl, rfl⟩ ⟨Nat.le_of_ble_eq_true rfl, Nat.le_of_ble_eq_true rfl⟩ ⟨Nat.le_of_ble_eq_true rfl, Nat.le_of_ble_eq_true rfl⟩ rfl rfl (Nat.le_of_ble_eq_true rfl) ?_
  exact a_vret C O (hE _ (Option.some.inj hf).symm) rfl dX12_init_266
