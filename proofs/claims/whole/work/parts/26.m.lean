/-! methods: X12_side_ X12_step X12_take X12_tell X12_thrown X12_tidy X12_undo X12_word -/
theorem dX12_side__0 : decode cX12_side_ 0 = .ok (.aload_n 0, 1) := by decide +kernel
theorem dX12_side__1 : decode cX12_side_ 1 = .ok (.iconst 0, 1) := by decide +kernel
theorem dX12_side__2 : decode cX12_side_ 2 = .ok (.putfield 1, 3) := by decide +kernel
theorem dX12_side__5 : decode cX12_side_ 5 = .ok (.aload_n 0, 1) := by decide +kernel
theorem dX12_side__6 : decode cX12_side_ 6 = .ok (.aload_n 0, 1) := by decide +kernel
theorem dX12_side__7 : decode cX12_side_ 7 = .ok (.iload_n 1, 1) := by decide +kernel
theorem dX12_side__8 : decode cX12_side_ 8 = .ok (.invokevirtual 422, 3) := by decide +kernel
theorem dX12_side__11 : decode cX12_side_ 11 = .ok (.ifCond .eq 11, 3) := by decide +kernel
theorem dX12_side__14 : decode cX12_side_ 14 = .ok (.iload_n 3, 1) := by decide +kernel
theorem dX12_side__15 : decode cX12_side_ 15 = .ok (.ifCond .lt 7, 3) := by decide +kernel
theorem dX12_side__18 : decode cX12_side_ 18 = .ok (.iconst 1, 1) := by decide +kernel
theorem dX12_side__19 : decode cX12_side_ 19 = .ok (.goto 4, 3) := by decide +kernel
theorem dX12_side__22 : decode cX12_side_ 22 = .ok (.iconst 0, 1) := by decide +kernel
theorem dX12_side__23 : decode cX12_side_ 23 = .ok (.iconst 1, 1) := by decide +kernel
theorem dX12_side__24 : decode cX12_side_ 24 = .ok (.invokevirtual 265, 3) := by decide +kernel
theorem dX12_side__27 : decode cX12_side_ 27 = .ok (.ifCond .ne 5, 3) := by decide +kernel
theorem dX12_side__30 : decode cX12_side_ 30 = .ok (.iconst 0, 1) := by decide +kernel
theorem dX12_side__31 : decode cX12_side_ 31 = .ok (.ireturn, 1) := by decide +kernel
theorem dX12_side__32 : decode cX12_side_ 32 = .ok (.iload_n 2, 1) := by decide +kernel
theorem dX12_side__33 : decode cX12_side_ 33 = .ok (.ifCond .eq 11, 3) := by decide +kernel
theorem dX12_side__36 : decode cX12_side_ 36 = .ok (.aload_n 0, 1) := by decide +kernel
theorem dX12_side__37 : decode cX12_side_ 37 = .ok (.iload_n 1, 1) := by decide +kernel
theorem dX12_side__38 : decode cX12_side_ 38 = .ok (.invokevirtual 288, 3) := by decide +kernel
theorem dX12_side__41 : decode cX12_side_ 41 = .ok (.goto 8, 3) := by decide +kernel
theorem dX12_side__44 : decode cX12_side_ 44 = .ok (.aload_n 0, 1) := by decide +kernel
theorem dX12_side__45 : decode cX12_side_ 45 = .ok (.iload_n 1, 1) := by decide +kernel
theorem dX12_side__46 : decode cX12_side_ 46 = .ok (.invokevirtual 285, 3) := by decide +kernel
theorem dX12_side__49 : decode cX12_side_ 49 = .ok (.lstore 4, 2) := by decide +kernel
theorem dX12_side__51 : decode cX12_side_ 51 = .ok (.iload_n 3, 1) := by decide +kernel
theorem dX12_side__52 : decode cX12_side_ 52 = .ok (.lload 4, 2) := by decide +kernel
theorem dX12_side__54 : decode cX12_side_ 54 = .ok (.invokestatic 136, 3) := by decide +kernel
theorem dX12_side__57 : decode cX12_side_ 57 = .ok (.if_icmp .ge 12, 3) := by decide +kernel
theorem dX12_side__60 : decode cX12_side_ 60 = .ok (.lload 4, 2) := by decide +kernel
theorem dX12_side__62 : decode cX12_side_ 62 = .ok (.iload_n 3, 1) := by decide +kernel
theorem dX12_side__63 : decode cX12_side_ 63 = .ok (.invokestatic 160, 3) := by decide +kernel
theorem dX12_side__66 : decode cX12_side_ 66 = .ok (.goto 4, 3) := by decide +kernel
theorem dX12_side__69 : decode cX12_side_ 69 = .ok (.iconst (-1), 1) := by decide +kernel
theorem dX12_side__70 : decode cX12_side_ 70 = .ok (.ireturn, 1) := by decide +kernel
abbrev rmX12_side_ : Room := { frames := 3, cells := 0, slots := 0, locals := 69 }
noncomputable def fJX12_side__m_49 (σ : St) (x3 : Int32) (t0 : Int64) : Option ((Int32 × St)) :=
(fX12_length t0).bind fun w54 =>
if w54 ≤ x3 then
(some ((-1), σ))
else
((fX12_letterAt t0 x3).bind fun w63 =>
some (w63, σ))
set_option maxHeartbeats 4000000 in
set_option maxRecDepth 100000 in
theorem jnX12_side__m_49 {X : xX} {σ : St} {x3 : Int32} {t0 : Int64}  {c : (Int32 × St)} (C : Ok X cX12_side_ 6 RX12 rmX12_side_ (some .int)) (hf : fJX12_side__m_49 σ x3 t0 = some c) (hE : ∀ r, c = r → xE1 X (some (.int r.1)) r.2) : V X (0, 0) σ 49 [(3, .int (x3))] [.long (t0)] := by
  unfold fJX12_side__m_49 at hf
  refine x_lstore C dX12_side__49 51 rfl rfl [(4, .long (t0)), (3, .int (x3))] rfl ?_
  refine x_iload_n C dX12_side__51 52 rfl 1 rfl rfl ?_
  refine x_lload C dX12_side__52 54 rfl 0 rfl ?_
  obtain ⟨w54, hw54, hf⟩ := x_bind hf
  refine x_callSi C dX12_side__54 57 rfl (cX12_lengthc hw54) kX12_length ksX12_length w1728 ⟨rfl, rfl⟩ ⟨Nat.le_of_ble_eq_true rfl, Nat.le_of_ble_eq_true rfl⟩ ⟨Nat.zero_le _, Nat.zero_le _⟩ rfl rfl (Nat.le_of_ble_eq_true rfl) ?_
  refine x_icmp_ge C dX12_side__57 69 (by decide) 60 rfl (fun hc => ?_) (fun hc => ?_)
  · have hf := (if_pos hc).symm.trans hf
    refine x_iconst C dX12_side__69 70 rfl (-1) (by decide) ?_
    exact x_iret C (hE _ (Option.some.inj hf).symm) dX12_side__70
  · have hf := (if_neg hc).symm.trans hf
    refine x_lload C dX12_side__60 62 rfl 0 rfl ?_
    refine x_iload_n C dX12_side__62 63 rfl 1 rfl rfl ?_
    obtain ⟨w63, hw63, hf⟩ := x_bind hf
    refine x_callSi C dX12_side__63 66 rfl (cX12_letterAtc hw63) kX12_letterAt ksX12_letterAt w1722 ⟨rfl, rfl⟩ ⟨Nat.le_of_ble_eq_true rfl, Nat.le_of_ble_eq_true rfl⟩ ⟨Nat.zero_le _, Nat.zero_le _⟩ rfl rfl (Nat.le_of_ble_eq_true rfl) ?_
    refine x_goto C dX12_side__66 70 (by decide) ?_
    exact x_iret C (hE _ (Option.some.inj hf).symm) dX12_side__70
noncomputable def fJX12_side__m_23 (σ : St) (x0 : Nat) (x1 : Int32) (x2 : Int32) (x3 : Int32) (t0 : Int32) (t1 : Nat) : Option ((Int32 × St)) :=
(isO σ t1 11).bind fun _ =>
(fX12_right σ t1 t0 1).bind fun w24 =>
if w24.1 = 0 then
(some (0, w24.2))
else
(if x2 = 0 then
((isO w24.2 x0 11).bind fun _ =>
(fX12_leftOf w24.2 x0 x1).bind fun w46 =>
fJX12_side__m_49 w24.2 x3 w46)
else
((isO w24.2 x0 11).bind fun _ =>
(fX12_rightOf w24.2 x0 x1).bind fun w38 =>
fJX12_side__m_49 w24.2 x3 w38))
set_option maxHeartbeats 4000000 in
set_option maxRecDepth 100000 in
theorem jnX12_side__m_23 {X : xX} {σ : St} {x0 : Nat} {x1 : Int32} {x2 : Int32} {x3 : Int32} {t0 : Int32} {t1 : Nat}  {c : (Int32 × St)} (C : Ok X cX12_side_ 6 RX12 rmX12_side_ (some .int)) (hf : fJX12_side__m_23 σ x0 x1 x2 x3 t0 t1 = some c) (hE : ∀ r, c = r → xE1 X (some (.int r.1)) r.2) : V X (0, 0) σ 23 [(0, .ref (x0)), (1, .int (x1)), (2, .int (x2)), (3, .int (x3))] [.int (t0), .ref (t1)] := by
  unfold fJX12_side__m_23 at hf
  refine x_iconst C dX12_side__23 24 rfl 1 (by decide) ?_
  obtain ⟨o24, ho24, hf⟩ := x_bind hf
  obtain ⟨w24, hw24, hf⟩ := x_bind hf
  refine x_callVi C dX12_side__24 27 rfl ho24 cl11.1 rfl (cX12_rightc hw24) kX12_right kvX12_right w1648 ⟨rfl, rfl⟩ ⟨Nat.le_of_ble_eq_true rfl, Nat.le_of_ble_eq_true rfl⟩ ⟨Nat.zero_le _, Nat.zero_le _⟩ rfl rfl (Nat.le_of_ble_eq_true rfl) ?_
  refine x_if_ne C dX12_side__27 32 (by decide) 30 rfl (fun hc => ?_) (fun hc => ?_)
  · have hf := (if_neg hc).symm.trans hf
    refine x_iload_n C dX12_side__32 33 rfl 2 rfl rfl ?_
    refine x_if_eq C dX12_side__33 44 (by decide) 36 rfl (fun hc => ?_) (fun hc => ?_)
    · have hf := (if_pos hc).symm.trans hf
      refine x_aload_n C dX12_side__44 45 rfl 0 rfl rfl ?_
      refine x_iload_n C dX12_side__45 46 rfl 1 rfl rfl ?_
      obtain ⟨o46, ho46, hf⟩ := x_bind hf
      obtain ⟨w46, hw46, hf⟩ := x_bind hf
      refine x_callVl C dX12_side__46 49 rfl ho46 cl11.1 rfl (cX12_leftOfc hw46) kX12_leftOf kvX12_leftOf w1752 ⟨rfl, rfl⟩ ⟨Nat.le_of_ble_eq_true rfl, Nat.le_of_ble_eq_true rfl⟩ ⟨Nat.zero_le _, Nat.zero_le _⟩ rfl rfl (Nat.le_of_ble_eq_true rfl) ?_
      refine x_lv [3] (lv' := [(3, .int (x3))]) rfl ?_
      exact jnX12_side__m_49 C hf hE
    · have hf := (if_neg hc).symm.trans hf
      refine x_aload_n C dX12_side__36 37 rfl 0 rfl rfl ?_
      refine x_iload_n C dX12_side__37 38 rfl 1 rfl rfl ?_
      obtain ⟨o38, ho38, hf⟩ := x_bind hf
      obtain ⟨w38, hw38, hf⟩ := x_bind hf
      refine x_callVl C dX12_side__38 41 rfl ho38 cl11.1 rfl (cX12_rightOfc hw38) kX12_rightOf kvX12_rightOf w1756 ⟨rfl, rfl⟩ ⟨Nat.le_of_ble_eq_true rfl, Nat.le_of_ble_eq_true rfl⟩ ⟨Nat.zero_le _, Nat.zero_le _⟩ rfl rfl (Nat.le_of_ble_eq_true rfl) ?_
      refine x_goto C dX12_side__41 49 (by decide) ?_
      refine x_lv [3] (lv' := [(3, .int (x3))]) rfl ?_
      exact jnX12_side__m_49 C hf hE
  · have hf := (if_pos hc).symm.trans hf
    refine x_iconst C dX12_side__30 31 rfl 0 (by decide) ?_
    exact x_iret C (hE _ (Option.some.inj hf).symm) dX12_side__31
noncomputable def fJX12_side__m_22 (σ : St) (x0 : Nat) (x1 : Int32) (x2 : Int32) (x3 : Int32) (t0 : Nat) : Option ((Int32 × St)) :=
fJX12_side__m_23 σ x0 x1 x2 x3 0 t0
set_option maxHeartbeats 4000000 in
set_option maxRecDepth 100000 in
theorem jnX12_side__m_22 {X : xX} {σ : St} {x0 : Nat} {x1 : Int32} {x2 : Int32} {x3 : Int32} {t0 : Nat}  {c : (Int32 × St)} (C : Ok X cX12_side_ 6 RX12 rmX12_side_ (some .int)) (hf : fJX12_side__m_22 σ x0 x1 x2 x3 t0 = some c) (hE : ∀ r, c = r → xE1 X (some (.int r.1)) r.2) : V X (0, 0) σ 22 [(0, .ref (x0)), (1, .int (x1)), (2, .int (x2)), (3, .int (x3))] [.ref (t0)] := by
  unfold fJX12_side__m_22 at hf
  refine x_iconst C dX12_side__22 23 rfl 0 (by decide) ?_
  exact jnX12_side__m_23 C hf hE
noncomputable def fX12_side_ (σ : St) (x0 : Nat) (x1 : Int32) (x2 : Int32) (x3 : Int32) : Option ((Int32 × St)) :=
(wrF σ x0 11 0 (.int (0))).bind fun σ2 =>
(isO σ2 x0 11).bind fun _ =>
(fX12_isRule σ2 x0 x1).bind fun w8 =>
if w8 = 0 then
(fJX12_side__m_22 σ2 x0 x1 x2 x3 x0)
else
(if x3 < 0 then
(fJX12_side__m_22 σ2 x0 x1 x2 x3 x0)
else
(fJX12_side__m_23 σ2 x0 x1 x2 x3 1 x0))
set_option maxHeartbeats 4000000 in
set_option maxRecDepth 100000 in
theorem cX12_side_c {l : Launch} {G : xG} {A : Nat → Prop} {σ : St} {x0 : Nat} {x1 : Int32} {x2 : Int32} {x3 : Int32} {c : (Int32 × St)} (hf : fX12_side_ σ x0 x1 x2 x3 = some c) : Con l yX12_side_ (xws yX12_side_ cX12_side_ 6 (some .int)) rmX12_side_ [.ref (x0), .int (x1), .int (x2), .int (x3)] G A σ (some (.int c.1)) c.2 := by
  refine x_start rfl (Nat.le_of_ble_eq_true rfl) (fun X _ _ _ C hE0 => ?_)
  have hE : ∀ r, c = r → xE1 X (some (.int r.1)) r.2 := fun r e => e ▸ hE0
  show V X (0, 0) σ 0 [(0, .ref (x0)), (1, .int (x1)), (2, .int (x2)), (3, .int (x3))] []
  unfold fX12_side_ at hf
  refine x_aload_n C dX12_side__0 1 rfl 0 rfl rfl ?_
  refine x_iconst C dX12_side__1 2 rfl 0 (by decide) ?_
  obtain ⟨σ2, hσ2, hf⟩ := x_bind hf
  refine x_putX C dX12_side__2 5 rfl hσ2 cl11 rfl w1443 rfl rfl rfl ?_
  refine x_aload_n C dX12_side__5 6 rfl 0 rfl rfl ?_
  refine x_aload_n C dX12_side__6 7 rfl 0 rfl rfl ?_
  refine x_iload_n C dX12_side__7 8 rfl 1 rfl rfl ?_
  obtain ⟨o8, ho8, hf⟩ := x_bind hf
  obtain ⟨w8, hw8, hf⟩ := x_bind hf
  refine x_callVi C dX12_side__8 11 rfl ho8 cl11.1 rfl (cX12_isRulec hw8) kX12_isRule kvX12_isRule w1888 ⟨rfl, rfl⟩ ⟨Nat.le_of_ble_eq_true rfl, Nat.le_of_ble_eq_true rfl⟩ ⟨Nat.zero_le _, Nat.zero_le _⟩ rfl rfl (Nat.le_of_ble_eq_true rfl) ?_
  refine x_if_eq C dX12_side__11 22 (by decide) 14 rfl (fun hc => ?_) (fun hc => ?_)
  · have hf := (if_pos hc).symm.trans hf
    exact jnX12_side__m_22 C hf hE
  · have hf := (if_neg hc).symm.trans hf
    refine x_iload_n C dX12_side__14 15 rfl 3 rfl rfl ?_
    refine x_if_lt C dX12_side__15 22 (by decide) 18 rfl (fun hc => ?_) (fun hc => ?_)
    · have hf := (if_pos hc).symm.trans hf
      exact jnX12_side__m_22 C hf hE
    · have hf := (if_neg hc).symm.trans hf
      refine x_iconst C dX12_side__18 19 rfl 1 (by decide) ?_
      refine x_goto C dX12_side__19 23 (by decide) ?_
      exact jnX12_side__m_23 C hf hE
theorem dX12_step_0 : decode cX12_step 0 = .ok (.aload_n 0, 1) := by decide +kernel
theorem dX12_step_1 : decode cX12_step 1 = .ok (.iconst 0, 1) := by decide +kernel
theorem dX12_step_2 : decode cX12_step 2 = .ok (.putfield 1, 3) := by decide +kernel
theorem dX12_step_5 : decode cX12_step 5 = .ok (.aload_n 0, 1) := by decide +kernel
theorem dX12_step_6 : decode cX12_step 6 = .ok (.iload_n 1, 1) := by decide +kernel
theorem dX12_step_7 : decode cX12_step 7 = .ok (.invokestatic 452, 3) := by decide +kernel
theorem dX12_step_10 : decode cX12_step 10 = .ok (.ifCond .eq 21, 3) := by decide +kernel
theorem dX12_step_13 : decode cX12_step 13 = .ok (.iload_n 2, 1) := by decide +kernel
theorem dX12_step_14 : decode cX12_step 14 = .ok (.ifCond .lt 17, 3) := by decide +kernel
theorem dX12_step_17 : decode cX12_step 17 = .ok (.iload_n 3, 1) := by decide +kernel
theorem dX12_step_18 : decode cX12_step 18 = .ok (.i2l, 1) := by decide +kernel
theorem dX12_step_19 : decode cX12_step 19 = .ok (.lconst 0, 1) := by decide +kernel
theorem dX12_step_20 : decode cX12_step 20 = .ok (.lconst 1, 1) := by decide +kernel
theorem dX12_step_21 : decode cX12_step 21 = .ok (.invokestatic 130, 3) := by decide +kernel
theorem dX12_step_24 : decode cX12_step 24 = .ok (.ifCond .eq 7, 3) := by decide +kernel
theorem dX12_step_27 : decode cX12_step 27 = .ok (.iconst 1, 1) := by decide +kernel
theorem dX12_step_28 : decode cX12_step 28 = .ok (.goto 4, 3) := by decide +kernel
theorem dX12_step_31 : decode cX12_step 31 = .ok (.iconst 0, 1) := by decide +kernel
theorem dX12_step_32 : decode cX12_step 32 = .ok (.iconst 1, 1) := by decide +kernel
theorem dX12_step_33 : decode cX12_step 33 = .ok (.invokevirtual 265, 3) := by decide +kernel
theorem dX12_step_36 : decode cX12_step 36 = .ok (.ifCond .eq 21, 3) := by decide +kernel
theorem dX12_step_39 : decode cX12_step 39 = .ok (.aload_n 0, 1) := by decide +kernel
theorem dX12_step_40 : decode cX12_step 40 = .ok (.aload_n 0, 1) := by decide +kernel
theorem dX12_step_41 : decode cX12_step 41 = .ok (.aload_n 0, 1) := by decide +kernel
theorem dX12_step_42 : decode cX12_step 42 = .ok (.iload_n 1, 1) := by decide +kernel
theorem dX12_step_43 : decode cX12_step 43 = .ok (.invokevirtual 402, 3) := by decide +kernel
theorem dX12_step_46 : decode cX12_step 46 = .ok (.iload_n 2, 1) := by decide +kernel
theorem dX12_step_47 : decode cX12_step 47 = .ok (.invokevirtual 305, 3) := by decide +kernel
theorem dX12_step_50 : decode cX12_step 50 = .ok (.iconst 1, 1) := by decide +kernel
theorem dX12_step_51 : decode cX12_step 51 = .ok (.invokevirtual 265, 3) := by decide +kernel
theorem dX12_step_54 : decode cX12_step 54 = .ok (.ifCond .ne 5, 3) := by decide +kernel
theorem dX12_step_57 : decode cX12_step 57 = .ok (.iconst 0, 1) := by decide +kernel
theorem dX12_step_58 : decode cX12_step 58 = .ok (.ireturn, 1) := by decide +kernel
theorem dX12_step_59 : decode cX12_step 59 = .ok (.iload_n 3, 1) := by decide +kernel
theorem dX12_step_60 : decode cX12_step 60 = .ok (.ifCond .ne 10, 3) := by decide +kernel
theorem dX12_step_63 : decode cX12_step 63 = .ok (.aload_n 0, 1) := by decide +kernel
theorem dX12_step_64 : decode cX12_step 64 = .ok (.getfield 295, 3) := by decide +kernel
theorem dX12_step_67 : decode cX12_step 67 = .ok (.goto 7, 3) := by decide +kernel
theorem dX12_step_70 : decode cX12_step 70 = .ok (.aload_n 0, 1) := by decide +kernel
theorem dX12_step_71 : decode cX12_step 71 = .ok (.getfield 298, 3) := by decide +kernel
theorem dX12_step_74 : decode cX12_step 74 = .ok (.ireturn, 1) := by decide +kernel
abbrev rmX12_step : Room := { frames := 5, cells := 0, slots := 0, locals := 129 }
noncomputable def fJX12_step_m_32 (σ : St) (x0 : Nat) (x1 : Int32) (x2 : Int32) (x3 : Int32) (t0 : Int32) (t1 : Nat) : Option ((Int32 × St)) :=
(isO σ t1 11).bind fun _ =>
(fX12_right σ t1 t0 1).bind fun w33 =>
if w33.1 = 0 then
(some (0, w33.2))
else
((isO w33.2 x0 11).bind fun _ =>
(fX12_wordAt w33.2 x0 x1).bind fun w43 =>
(isO w33.2 x0 11).bind fun _ =>
(fX12_finds w33.2 x0 w43 x2).bind fun w47 =>
(isO w47.2 x0 11).bind fun _ =>
(fX12_right w47.2 x0 w47.1 1).bind fun w51 =>
if w51.1 = 0 then
(some (0, w51.2))
else
(if x3 = 0 then
((gI w51.2 x0 11 16).bind fun v64 =>
some (v64, w51.2))
else
((gI w51.2 x0 11 17).bind fun v71 =>
some (v71, w51.2))))
set_option maxHeartbeats 4000000 in
set_option maxRecDepth 100000 in
theorem jnX12_step_m_32 {X : xX} {σ : St} {x0 : Nat} {x1 : Int32} {x2 : Int32} {x3 : Int32} {t0 : Int32} {t1 : Nat}  {c : (Int32 × St)} (C : Ok X cX12_step 4 RX12 rmX12_step (some .int)) (hf : fJX12_step_m_32 σ x0 x1 x2 x3 t0 t1 = some c) (hE : ∀ r, c = r → xE1 X (some (.int r.1)) r.2) : V X (0, 0) σ 32 [(0, .ref (x0)), (1, .int (x1)), (2, .int (x2)), (3, .int (x3))] [.int (t0), .ref (t1)] := by
  unfold fJX12_step_m_32 at hf
  refine x_iconst C dX12_step_32 33 rfl 1 (by decide) ?_
  obtain ⟨o33, ho33, hf⟩ := x_bind hf
  obtain ⟨w33, hw33, hf⟩ := x_bind hf
  refine x_callVi C dX12_step_33 36 rfl ho33 cl11.1 rfl (cX12_rightc hw33) kX12_right kvX12_right w1648 ⟨rfl, rfl⟩ ⟨Nat.le_of_ble_eq_true rfl, Nat.le_of_ble_eq_true rfl⟩ ⟨Nat.zero_le _, Nat.zero_le _⟩ rfl rfl (Nat.le_of_ble_eq_true rfl) ?_
  refine x_if_eq C dX12_step_36 57 (by decide) 39 rfl (fun hc => ?_) (fun hc => ?_)
  · have hf := (if_pos hc).symm.trans hf
    refine x_iconst C dX12_step_57 58 rfl 0 (by decide) ?_
    exact x_iret C (hE _ (Option.some.inj hf).symm) dX12_step_58
  · have hf := (if_neg hc).symm.trans hf
    refine x_aload_n C dX12_step_39 40 rfl 0 rfl rfl ?_
    refine x_aload_n C dX12_step_40 41 rfl 0 rfl rfl ?_
    refine x_aload_n C dX12_step_41 42 rfl 0 rfl rfl ?_
    refine x_iload_n C dX12_step_42 43 rfl 1 rfl rfl ?_
    obtain ⟨o43, ho43, hf⟩ := x_bind hf
    obtain ⟨w43, hw43, hf⟩ := x_bind hf
    refine x_callVl C dX12_step_43 46 rfl ho43 cl11.1 rfl (cX12_wordAtc hw43) kX12_wordAt kvX12_wordAt w1845 ⟨rfl, rfl⟩ ⟨Nat.le_of_ble_eq_true rfl, Nat.le_of_ble_eq_true rfl⟩ ⟨Nat.zero_le _, Nat.zero_le _⟩ rfl rfl (Nat.le_of_ble_eq_true rfl) ?_
    refine x_iload_n C dX12_step_46 47 rfl 2 rfl rfl ?_
    obtain ⟨o47, ho47, hf⟩ := x_bind hf
    obtain ⟨w47, hw47, hf⟩ := x_bind hf
    refine x_callVi C dX12_step_47 50 rfl ho47 cl11.1 rfl (cX12_findsc hw47) kX12_finds kvX12_finds w1810 ⟨rfl, rfl⟩ ⟨Nat.le_of_ble_eq_true rfl, Nat.le_of_ble_eq_true rfl⟩ ⟨Nat.zero_le _, Nat.zero_le _⟩ rfl rfl (Nat.le_of_ble_eq_true rfl) ?_
    refine x_iconst C dX12_step_50 51 rfl 1 (by decide) ?_
    obtain ⟨o51, ho51, hf⟩ := x_bind hf
    obtain ⟨w51, hw51, hf⟩ := x_bind hf
    refine x_callVi C dX12_step_51 54 rfl ho51 cl11.1 rfl (cX12_rightc hw51) kX12_right kvX12_right w1648 ⟨rfl, rfl⟩ ⟨Nat.le_of_ble_eq_true rfl, Nat.le_of_ble_eq_true rfl⟩ ⟨Nat.zero_le _, Nat.zero_le _⟩ rfl rfl (Nat.le_of_ble_eq_true rfl) ?_
    refine x_if_ne C dX12_step_54 59 (by decide) 57 rfl (fun hc => ?_) (fun hc => ?_)
    · have hf := (if_neg hc).symm.trans hf
      refine x_iload_n C dX12_step_59 60 rfl 3 rfl rfl ?_
      refine x_if_ne C dX12_step_60 70 (by decide) 63 rfl (fun hc => ?_) (fun hc => ?_)
      · have hf := (if_neg hc).symm.trans hf
        refine x_aload_n C dX12_step_70 71 rfl 0 rfl rfl ?_
        obtain ⟨v71, hv71, hf⟩ := x_bind hf
        refine x_getI C dX12_step_71 74 rfl hv71 cl11 rfl w1460 ?_
        exact x_iret C (hE _ (Option.some.inj hf).symm) dX12_step_74
      · have hf := (if_pos hc).symm.trans hf
        refine x_aload_n C dX12_step_63 64 rfl 0 rfl rfl ?_
        obtain ⟨v64, hv64, hf⟩ := x_bind hf
        refine x_getI C dX12_step_64 67 rfl hv64 cl11 rfl w1459 ?_
        refine x_goto C dX12_step_67 74 (by decide) ?_
        exact x_iret C (hE _ (Option.some.inj hf).symm) dX12_step_74
    · have hf := (if_pos hc).symm.trans hf
      refine x_iconst C dX12_step_57 58 rfl 0 (by decide) ?_
      exact x_iret C (hE _ (Option.some.inj hf).symm) dX12_step_58
noncomputable def fJX12_step_m_31 (σ : St) (x0 : Nat) (x1 : Int32) (x2 : Int32) (x3 : Int32) (t0 : Nat) : Option ((Int32 × St)) :=
fJX12_step_m_32 σ x0 x1 x2 x3 0 t0
set_option maxHeartbeats 4000000 in
set_option maxRecDepth 100000 in
theorem jnX12_step_m_31 {X : xX} {σ : St} {x0 : Nat} {x1 : Int32} {x2 : Int32} {x3 : Int32} {t0 : Nat}  {c : (Int32 × St)} (C : Ok X cX12_step 4 RX12 rmX12_step (some .int)) (hf : fJX12_step_m_31 σ x0 x1 x2 x3 t0 = some c) (hE : ∀ r, c = r → xE1 X (some (.int r.1)) r.2) : V X (0, 0) σ 31 [(0, .ref (x0)), (1, .int (x1)), (2, .int (x2)), (3, .int (x3))] [.ref (t0)] := by
  unfold fJX12_step_m_31 at hf
  refine x_iconst C dX12_step_31 32 rfl 0 (by decide) ?_
  exact jnX12_step_m_32 C hf hE
noncomputable def fX12_step (σ : St) (x0 : Nat) (x1 : Int32) (x2 : Int32) (x3 : Int32) : Option ((Int32 × St)) :=
(wrF σ x0 11 0 (.int (0))).bind fun σ2 =>
(fX12_isPlace x1).bind fun w7 =>
if w7 = 0 then
(fJX12_step_m_31 σ2 x0 x1 x2 x3 x0)
else
(if x2 < 0 then
(fJX12_step_m_31 σ2 x0 x1 x2 x3 x0)
else
((fX12_isIn x3.toInt64 0 1).bind fun w21 =>
if w21 = 0 then
(fJX12_step_m_31 σ2 x0 x1 x2 x3 x0)
else
(fJX12_step_m_32 σ2 x0 x1 x2 x3 1 x0)))
set_option maxHeartbeats 4000000 in
set_option maxRecDepth 100000 in
theorem cX12_stepc {l : Launch} {G : xG} {A : Nat → Prop} {σ : St} {x0 : Nat} {x1 : Int32} {x2 : Int32} {x3 : Int32} {c : (Int32 × St)} (hf : fX12_step σ x0 x1 x2 x3 = some c) : Con l yX12_step (xws yX12_step cX12_step 4 (some .int)) rmX12_step [.ref (x0), .int (x1), .int (x2), .int (x3)] G A σ (some (.int c.1)) c.2 := by
  refine x_start rfl (Nat.le_of_ble_eq_true rfl) (fun X _ _ _ C hE0 => ?_)
  have hE : ∀ r, c = r → xE1 X (some (.int r.1)) r.2 := fun r e => e ▸ hE0
  show V X (0, 0) σ 0 [(0, .ref (x0)), (1, .int (x1)), (2, .int (x2)), (3, .int (x3))] []
  unfold fX12_step at hf
  refine x_aload_n C dX12_step_0 1 rfl 0 rfl rfl ?_
  refine x_iconst C dX12_step_1 2 rfl 0 (by decide) ?_
  obtain ⟨σ2, hσ2, hf⟩ := x_bind hf
  refine x_putX C dX12_step_2 5 rfl hσ2 cl11 rfl w1443 rfl rfl rfl ?_
  refine x_aload_n C dX12_step_5 6 rfl 0 rfl rfl ?_
  refine x_iload_n C dX12_step_6 7 rfl 1 rfl rfl ?_
  obtain ⟨w7, hw7, hf⟩ := x_bind hf
  refine x_callSi C dX12_step_7 10 rfl (cX12_isPlacec hw7) kX12_isPlace ksX12_isPlace w1942 ⟨rfl, rfl⟩ ⟨Nat.le_of_ble_eq_true rfl, Nat.le_of_ble_eq_true rfl⟩ ⟨Nat.zero_le _, Nat.zero_le _⟩ rfl rfl (Nat.le_of_ble_eq_true rfl) ?_
  refine x_if_eq C dX12_step_10 31 (by decide) 13 rfl (fun hc => ?_) (fun hc => ?_)
  · have hf := (if_pos hc).symm.trans hf
    exact jnX12_step_m_31 C hf hE
  · have hf := (if_neg hc).symm.trans hf
    refine x_iload_n C dX12_step_13 14 rfl 2 rfl rfl ?_
    refine x_if_lt C dX12_step_14 31 (by decide) 17 rfl (fun hc => ?_) (fun hc => ?_)
    · have hf := (if_pos hc).symm.trans hf
      exact jnX12_step_m_31 C hf hE
    · have hf := (if_neg hc).symm.trans hf
      refine x_iload_n C dX12_step_17 18 rfl 3 rfl rfl ?_
      refine x_i2l C dX12_step_18 19 rfl ?_
      refine x_lconst C dX12_step_19 20 rfl 0 (by decide) ?_
      refine x_lconst C dX12_step_20 21 rfl 1 (by decide) ?_
      obtain ⟨w21, hw21, hf⟩ := x_bind hf
      refine x_callSi C dX12_step_21 24 rfl (cX12_isInc hw21) kX12_isIn ksX12_isIn w1645 ⟨rfl, rfl⟩ ⟨Nat.le_of_ble_eq_true rfl, Nat.le_of_ble_eq_true rfl⟩ ⟨Nat.zero_le _, Nat.zero_le _⟩ rfl rfl (Nat.le_of_ble_eq_true rfl) ?_
      refine x_if_eq C dX12_step_24 31 (by decide) 27 rfl (fun hc => ?_) (fun hc => ?_)
      · have hf := (if_pos hc).symm.trans hf
        exact jnX12_step_m_31 C hf hE
      · have hf := (if_neg hc).symm.trans hf
        refine x_iconst C dX12_step_27 28 rfl 1 (by decide) ?_
        refine x_goto C dX12_step_28 32 (by decide) ?_
        exact jnX12_step_m_32 C hf hE
theorem dX12_take_0 : decode cX12_take 0 = .ok (.aload_n 0, 1) := by decide +kernel
theorem dX12_take_1 : decode cX12_take 1 = .ok (.iconst 0, 1) := by decide +kernel
theorem dX12_take_2 : decode cX12_take 2 = .ok (.putfield 1, 3) := by decide +kernel
theorem dX12_take_5 : decode cX12_take 5 = .ok (.aload_n 0, 1) := by decide +kernel
theorem dX12_take_6 : decode cX12_take 6 = .ok (.iload_n 1, 1) := by decide +kernel
theorem dX12_take_7 : decode cX12_take 7 = .ok (.invokestatic 452, 3) := by decide +kernel
theorem dX12_take_10 : decode cX12_take 10 = .ok (.ifCond .eq 16, 3) := by decide +kernel
theorem dX12_take_13 : decode cX12_take 13 = .ok (.aload_n 0, 1) := by decide +kernel
theorem dX12_take_14 : decode cX12_take 14 = .ok (.iload_n 2, 1) := by decide +kernel
theorem dX12_take_15 : decode cX12_take 15 = .ok (.iload_n 3, 1) := by decide +kernel
theorem dX12_take_16 : decode cX12_take 16 = .ok (.invokevirtual 489, 3) := by decide +kernel
theorem dX12_take_19 : decode cX12_take 19 = .ok (.ifCond .eq 7, 3) := by decide +kernel
theorem dX12_take_22 : decode cX12_take 22 = .ok (.iconst 1, 1) := by decide +kernel
theorem dX12_take_23 : decode cX12_take 23 = .ok (.goto 4, 3) := by decide +kernel
theorem dX12_take_26 : decode cX12_take 26 = .ok (.iconst 0, 1) := by decide +kernel
theorem dX12_take_27 : decode cX12_take 27 = .ok (.iconst 1, 1) := by decide +kernel
theorem dX12_take_28 : decode cX12_take 28 = .ok (.invokevirtual 265, 3) := by decide +kernel
theorem dX12_take_31 : decode cX12_take 31 = .ok (.ifCond .ne 5, 3) := by decide +kernel
theorem dX12_take_34 : decode cX12_take 34 = .ok (.iconst 0, 1) := by decide +kernel
theorem dX12_take_35 : decode cX12_take 35 = .ok (.ireturn, 1) := by decide +kernel
theorem dX12_take_36 : decode cX12_take 36 = .ok (.aload_n 0, 1) := by decide +kernel
theorem dX12_take_37 : decode cX12_take 37 = .ok (.invokevirtual 384, 3) := by decide +kernel
theorem dX12_take_40 : decode cX12_take 40 = .ok (.aload_n 0, 1) := by decide +kernel
theorem dX12_take_41 : decode cX12_take 41 = .ok (.iload_n 1, 1) := by decide +kernel
theorem dX12_take_42 : decode cX12_take 42 = .ok (.aload_n 0, 1) := by decide +kernel
theorem dX12_take_43 : decode cX12_take 43 = .ok (.getfield 43, 3) := by decide +kernel
theorem dX12_take_46 : decode cX12_take 46 = .ok (.iload_n 3, 1) := by decide +kernel
theorem dX12_take_47 : decode cX12_take 47 = .ok (.laload, 1) := by decide +kernel
theorem dX12_take_48 : decode cX12_take 48 = .ok (.invokevirtual 405, 3) := by decide +kernel
theorem dX12_take_51 : decode cX12_take 51 = .ok (.aload_n 0, 1) := by decide +kernel
theorem dX12_take_52 : decode cX12_take 52 = .ok (.getfield 43, 3) := by decide +kernel
theorem dX12_take_55 : decode cX12_take 55 = .ok (.iload_n 3, 1) := by decide +kernel
theorem dX12_take_56 : decode cX12_take 56 = .ok (.laload, 1) := by decide +kernel
theorem dX12_take_57 : decode cX12_take 57 = .ok (.invokestatic 136, 3) := by decide +kernel
theorem dX12_take_60 : decode cX12_take 60 = .ok (.ireturn, 1) := by decide +kernel
abbrev rmX12_take : Room := { frames := 7, cells := 0, slots := 0, locals := 178 }
noncomputable def fJX12_take_m_27 (σ : St) (x0 : Nat) (x1 : Int32) (x3 : Int32) (t0 : Int32) (t1 : Nat) : Option ((Int32 × St)) :=
(isO σ t1 11).bind fun _ =>
(fX12_right σ t1 t0 1).bind fun w28 =>
if w28.1 = 0 then
(some (0, w28.2))
else
((isO w28.2 x0 11).bind fun _ =>
(fX12_keeps w28.2 x0).bind fun w37 =>
(gR w37 x0 11 25).bind fun v43 =>
(aL w37 v43 x3).bind fun v47 =>
(isO w37 x0 11).bind fun _ =>
(fX12_puts w37 x0 x1 v47).bind fun w48 =>
(gR w48 x0 11 25).bind fun v52 =>
(aL w48 v52 x3).bind fun v56 =>
(fX12_length v56).bind fun w57 =>
some (w57, w48))
set_option maxHeartbeats 4000000 in
set_option maxRecDepth 100000 in
theorem jnX12_take_m_27 {X : xX} {σ : St} {x0 : Nat} {x1 : Int32} {x3 : Int32} {t0 : Int32} {t1 : Nat}  {c : (Int32 × St)} (C : Ok X cX12_take 4 RX12 rmX12_take (some .int)) (hf : fJX12_take_m_27 σ x0 x1 x3 t0 t1 = some c) (hE : ∀ r, c = r → xE1 X (some (.int r.1)) r.2) : V X (0, 0) σ 27 [(0, .ref (x0)), (1, .int (x1)), (3, .int (x3))] [.int (t0), .ref (t1)] := by
  unfold fJX12_take_m_27 at hf
  refine x_iconst C dX12_take_27 28 rfl 1 (by decide) ?_
  obtain ⟨o28, ho28, hf⟩ := x_bind hf
  obtain ⟨w28, hw28, hf⟩ := x_bind hf
  refine x_callVi C dX12_take_28 31 rfl ho28 cl11.1 rfl (cX12_rightc hw28) kX12_right kvX12_right w1648 ⟨rfl, rfl⟩ ⟨Nat.le_of_ble_eq_true rfl, Nat.le_of_ble_eq_true rfl⟩ ⟨Nat.zero_le _, Nat.zero_le _⟩ rfl rfl (Nat.le_of_ble_eq_true rfl) ?_
  refine x_if_ne C dX12_take_31 36 (by decide) 34 rfl (fun hc => ?_) (fun hc => ?_)
  · have hf := (if_neg hc).symm.trans hf
    refine x_aload_n C dX12_take_36 37 rfl 0 rfl rfl ?_
    obtain ⟨o37, ho37, hf⟩ := x_bind hf
    obtain ⟨w37, hw37, hf⟩ := x_bind hf
    refine x_callVv C dX12_take_37 40 rfl ho37 cl11.1 rfl (cX12_keepsc hw37) kX12_keeps kvX12_keeps w1772 ⟨rfl, rfl⟩ ⟨Nat.le_of_ble_eq_true rfl, Nat.le_of_ble_eq_true rfl⟩ ⟨Nat.zero_le _, Nat.zero_le _⟩ rfl rfl (Nat.le_of_ble_eq_true rfl) ?_
    refine x_aload_n C dX12_take_40 41 rfl 0 rfl rfl ?_
    refine x_iload_n C dX12_take_41 42 rfl 1 rfl rfl ?_
    refine x_aload_n C dX12_take_42 43 rfl 0 rfl rfl ?_
    obtain ⟨v43, hv43, hf⟩ := x_bind hf
    refine x_getR C dX12_take_43 46 rfl hv43 cl11 rfl w1468 ?_
    refine x_iload_n C dX12_take_46 47 rfl 2 rfl rfl ?_
    obtain ⟨v47, hv47, hf⟩ := x_bind hf
    refine x_laload C dX12_take_47 48 rfl hv47 ?_
    obtain ⟨o48, ho48, hf⟩ := x_bind hf
    obtain ⟨w48, hw48, hf⟩ := x_bind hf
    refine x_callVv C dX12_take_48 51 rfl ho48 cl11.1 rfl (cX12_putsc hw48) kX12_puts kvX12_puts w1852 ⟨rfl, rfl⟩ ⟨Nat.le_of_ble_eq_true rfl, Nat.le_of_ble_eq_true rfl⟩ ⟨Nat.zero_le _, Nat.zero_le _⟩ rfl rfl (Nat.le_of_ble_eq_true rfl) ?_
    refine x_aload_n C dX12_take_51 52 rfl 0 rfl rfl ?_
    obtain ⟨v52, hv52, hf⟩ := x_bind hf
    refine x_getR C dX12_take_52 55 rfl hv52 cl11 rfl w1468 ?_
    refine x_iload_n C dX12_take_55 56 rfl 2 rfl rfl ?_
    obtain ⟨v56, hv56, hf⟩ := x_bind hf
    refine x_laload C dX12_take_56 57 rfl hv56 ?_
    obtain ⟨w57, hw57, hf⟩ := x_bind hf
    refine x_callSi C dX12_take_57 60 rfl (cX12_lengthc hw57) kX12_length ksX12_length w1728 ⟨rfl, rfl⟩ ⟨Nat.le_of_ble_eq_true rfl, Nat.le_of_ble_eq_true rfl⟩ ⟨Nat.zero_le _, Nat.zero_le _⟩ rfl rfl (Nat.le_of_ble_eq_true rfl) ?_
    exact x_iret C (hE _ (Option.some.inj hf).symm) dX12_take_60
  · have hf := (if_pos hc).symm.trans hf
    refine x_iconst C dX12_take_34 35 rfl 0 (by decide) ?_
    exact x_iret C (hE _ (Option.some.inj hf).symm) dX12_take_35
noncomputable def fJX12_take_m_26 (σ : St) (x0 : Nat) (x1 : Int32) (x3 : Int32) (t0 : Nat) : Option ((Int32 × St)) :=
fJX12_take_m_27 σ x0 x1 x3 0 t0
set_option maxHeartbeats 4000000 in
set_option maxRecDepth 100000 in
theorem jnX12_take_m_26 {X : xX} {σ : St} {x0 : Nat} {x1 : Int32} {x3 : Int32} {t0 : Nat}  {c : (Int32 × St)} (C : Ok X cX12_take 4 RX12 rmX12_take (some .int)) (hf : fJX12_take_m_26 σ x0 x1 x3 t0 = some c) (hE : ∀ r, c = r → xE1 X (some (.int r.1)) r.2) : V X (0, 0) σ 26 [(0, .ref (x0)), (1, .int (x1)), (3, .int (x3))] [.ref (t0)] := by
  unfold fJX12_take_m_26 at hf
  refine x_iconst C dX12_take_26 27 rfl 0 (by decide) ?_
  exact jnX12_take_m_27 C hf hE
noncomputable def fX12_take (σ : St) (x0 : Nat) (x1 : Int32) (x2 : Int32) (x3 : Int32) : Option ((Int32 × St)) :=
(wrF σ x0 11 0 (.int (0))).bind fun σ2 =>
(fX12_isPlace x1).bind fun w7 =>
if w7 = 0 then
(fJX12_take_m_26 σ2 x0 x1 x3 x0)
else
((isO σ2 x0 11).bind fun _ =>
(fX12_isReached σ2 x0 x2 x3).bind fun w16 =>
if w16.1 = 0 then
(fJX12_take_m_26 w16.2 x0 x1 x3 x0)
else
(fJX12_take_m_27 w16.2 x0 x1 x3 1 x0))
set_option maxHeartbeats 4000000 in
set_option maxRecDepth 100000 in
theorem cX12_takec {l : Launch} {G : xG} {A : Nat → Prop} {σ : St} {x0 : Nat} {x1 : Int32} {x2 : Int32} {x3 : Int32} {c : (Int32 × St)} (hf : fX12_take σ x0 x1 x2 x3 = some c) : Con l yX12_take (xws yX12_take cX12_take 4 (some .int)) rmX12_take [.ref (x0), .int (x1), .int (x2), .int (x3)] G A σ (some (.int c.1)) c.2 := by
  refine x_start rfl (Nat.le_of_ble_eq_true rfl) (fun X _ _ _ C hE0 => ?_)
  have hE : ∀ r, c = r → xE1 X (some (.int r.1)) r.2 := fun r e => e ▸ hE0
  show V X (0, 0) σ 0 [(0, .ref (x0)), (1, .int (x1)), (2, .int (x2)), (3, .int (x3))] []
  unfold fX12_take at hf
  refine x_aload_n C dX12_take_0 1 rfl 0 rfl rfl ?_
  refine x_iconst C dX12_take_1 2 rfl 0 (by decide) ?_
  obtain ⟨σ2, hσ2, hf⟩ := x_bind hf
  refine x_putX C dX12_take_2 5 rfl hσ2 cl11 rfl w1443 rfl rfl rfl ?_
  refine x_aload_n C dX12_take_5 6 rfl 0 rfl rfl ?_
  refine x_iload_n C dX12_take_6 7 rfl 1 rfl rfl ?_
  obtain ⟨w7, hw7, hf⟩ := x_bind hf
  refine x_callSi C dX12_take_7 10 rfl (cX12_isPlacec hw7) kX12_isPlace ksX12_isPlace w1942 ⟨rfl, rfl⟩ ⟨Nat.le_of_ble_eq_true rfl, Nat.le_of_ble_eq_true rfl⟩ ⟨Nat.zero_le _, Nat.zero_le _⟩ rfl rfl (Nat.le_of_ble_eq_true rfl) ?_
  refine x_if_eq C dX12_take_10 26 (by decide) 13 rfl (fun hc => ?_) (fun hc => ?_)
  · have hf := (if_pos hc).symm.trans hf
    refine x_lv [0, 1, 3] (lv' := [(0, .ref (x0)), (1, .int (x1)), (3, .int (x3))]) rfl ?_
    exact jnX12_take_m_26 C hf hE
  · have hf := (if_neg hc).symm.trans hf
    refine x_aload_n C dX12_take_13 14 rfl 0 rfl rfl ?_
    refine x_iload_n C dX12_take_14 15 rfl 2 rfl rfl ?_
    refine x_iload_n C dX12_take_15 16 rfl 3 rfl rfl ?_
    obtain ⟨o16, ho16, hf⟩ := x_bind hf
    obtain ⟨w16, hw16, hf⟩ := x_bind hf
    refine x_callVi C dX12_take_16 19 rfl ho16 cl11.1 rfl (cX12_isReachedc hw16) kX12_isReached kvX12_isReached w2057 ⟨rfl, rfl⟩ ⟨Nat.le_of_ble_eq_true rfl, Nat.le_of_ble_eq_true rfl⟩ ⟨Nat.zero_le _, Nat.zero_le _⟩ rfl rfl (Nat.le_of_ble_eq_true rfl) ?_
    refine x_if_eq C dX12_take_19 26 (by decide) 22 rfl (fun hc => ?_) (fun hc => ?_)
    · have hf := (if_pos hc).symm.trans hf
      refine x_lv [0, 1, 3] (lv' := [(0, .ref (x0)), (1, .int (x1)), (3, .int (x3))]) rfl ?_
      exact jnX12_take_m_26 C hf hE
    · have hf := (if_neg hc).symm.trans hf
      refine x_iconst C dX12_take_22 23 rfl 1 (by decide) ?_
      refine x_goto C dX12_take_23 27 (by decide) ?_
      refine x_lv [0, 1, 3] (lv' := [(0, .ref (x0)), (1, .int (x1)), (3, .int (x3))]) rfl ?_
      exact jnX12_take_m_27 C hf hE
theorem dX12_tell_0 : decode cX12_tell 0 = .ok (.aload_n 0, 1) := by decide +kernel
theorem dX12_tell_1 : decode cX12_tell 1 = .ok (.iconst 0, 1) := by decide +kernel
theorem dX12_tell_2 : decode cX12_tell 2 = .ok (.putfield 1, 3) := by decide +kernel
theorem dX12_tell_5 : decode cX12_tell 5 = .ok (.aload_n 0, 1) := by decide +kernel
theorem dX12_tell_6 : decode cX12_tell 6 = .ok (.iload_n 1, 1) := by decide +kernel
theorem dX12_tell_7 : decode cX12_tell 7 = .ok (.invokestatic 452, 3) := by decide +kernel
theorem dX12_tell_10 : decode cX12_tell 10 = .ok (.ifCond .eq 21, 3) := by decide +kernel
theorem dX12_tell_13 : decode cX12_tell 13 = .ok (.iload_n 2, 1) := by decide +kernel
theorem dX12_tell_14 : decode cX12_tell 14 = .ok (.i2l, 1) := by decide +kernel
theorem dX12_tell_15 : decode cX12_tell 15 = .ok (.lconst 0, 1) := by decide +kernel
theorem dX12_tell_16 : decode cX12_tell 16 = .ok (.aload_n 0, 1) := by decide +kernel
theorem dX12_tell_17 : decode cX12_tell 17 = .ok (.getfield 168, 3) := by decide +kernel
theorem dX12_tell_20 : decode cX12_tell 20 = .ok (.i2l, 1) := by decide +kernel
theorem dX12_tell_21 : decode cX12_tell 21 = .ok (.invokestatic 130, 3) := by decide +kernel
theorem dX12_tell_24 : decode cX12_tell 24 = .ok (.ifCond .eq 7, 3) := by decide +kernel
theorem dX12_tell_27 : decode cX12_tell 27 = .ok (.iconst 1, 1) := by decide +kernel
theorem dX12_tell_28 : decode cX12_tell 28 = .ok (.goto 4, 3) := by decide +kernel
theorem dX12_tell_31 : decode cX12_tell 31 = .ok (.iconst 0, 1) := by decide +kernel
theorem dX12_tell_32 : decode cX12_tell 32 = .ok (.iconst 1, 1) := by decide +kernel
theorem dX12_tell_33 : decode cX12_tell 33 = .ok (.invokevirtual 265, 3) := by decide +kernel
theorem dX12_tell_36 : decode cX12_tell 36 = .ok (.ifCond .ne 5, 3) := by decide +kernel
theorem dX12_tell_39 : decode cX12_tell 39 = .ok (.iconst 0, 1) := by decide +kernel
theorem dX12_tell_40 : decode cX12_tell 40 = .ok (.ireturn, 1) := by decide +kernel
theorem dX12_tell_41 : decode cX12_tell 41 = .ok (.aload_n 0, 1) := by decide +kernel
theorem dX12_tell_42 : decode cX12_tell 42 = .ok (.iconst 0, 1) := by decide +kernel
theorem dX12_tell_43 : decode cX12_tell 43 = .ok (.putfield 168, 3) := by decide +kernel
theorem dX12_tell_46 : decode cX12_tell 46 = .ok (.iload_n 2, 1) := by decide +kernel
theorem dX12_tell_47 : decode cX12_tell 47 = .ok (.bipush 16, 2) := by decide +kernel
theorem dX12_tell_49 : decode cX12_tell 49 = .ok (.if_icmp .gt 18, 3) := by decide +kernel
theorem dX12_tell_52 : decode cX12_tell 52 = .ok (.aload_n 0, 1) := by decide +kernel
theorem dX12_tell_53 : decode cX12_tell 53 = .ok (.iconst 0, 1) := by decide +kernel
theorem dX12_tell_54 : decode cX12_tell 54 = .ok (.iload_n 2, 1) := by decide +kernel
theorem dX12_tell_55 : decode cX12_tell 55 = .ok (.aload_n 0, 1) := by decide +kernel
theorem dX12_tell_56 : decode cX12_tell 56 = .ok (.getfield 13, 3) := by decide +kernel
theorem dX12_tell_59 : decode cX12_tell 59 = .ok (.iconst 0, 1) := by decide +kernel
theorem dX12_tell_60 : decode cX12_tell 60 = .ok (.laload, 1) := by decide +kernel
theorem dX12_tell_61 : decode cX12_tell 61 = .ok (.invokevirtual 232, 3) := by decide +kernel
theorem dX12_tell_64 : decode cX12_tell 64 = .ok (.ifCond .ne 5, 3) := by decide +kernel
theorem dX12_tell_67 : decode cX12_tell 67 = .ok (.iconst (-1), 1) := by decide +kernel
theorem dX12_tell_68 : decode cX12_tell 68 = .ok (.ireturn, 1) := by decide +kernel
theorem dX12_tell_69 : decode cX12_tell 69 = .ok (.aload_n 0, 1) := by decide +kernel
theorem dX12_tell_70 : decode cX12_tell 70 = .ok (.invokevirtual 384, 3) := by decide +kernel
theorem dX12_tell_73 : decode cX12_tell 73 = .ok (.aload_n 0, 1) := by decide +kernel
theorem dX12_tell_74 : decode cX12_tell 74 = .ok (.iload_n 1, 1) := by decide +kernel
theorem dX12_tell_75 : decode cX12_tell 75 = .ok (.aload_n 0, 1) := by decide +kernel
theorem dX12_tell_76 : decode cX12_tell 76 = .ok (.iconst 0, 1) := by decide +kernel
theorem dX12_tell_77 : decode cX12_tell 77 = .ok (.iload_n 2, 1) := by decide +kernel
theorem dX12_tell_78 : decode cX12_tell 78 = .ok (.invokevirtual 236, 3) := by decide +kernel
theorem dX12_tell_81 : decode cX12_tell 81 = .ok (.invokevirtual 405, 3) := by decide +kernel
theorem dX12_tell_84 : decode cX12_tell 84 = .ok (.iload_n 2, 1) := by decide +kernel
theorem dX12_tell_85 : decode cX12_tell 85 = .ok (.ireturn, 1) := by decide +kernel
abbrev rmX12_tell : Room := { frames := 2, cells := 0, slots := 0, locals := 50 }
noncomputable def fJX12_tell_m_32 (σ : St) (x0 : Nat) (x1 : Int32) (x2 : Int32) (t0 : Int32) (t1 : Nat) : Option ((Int32 × St)) :=
(isO σ t1 11).bind fun _ =>
(fX12_right σ t1 t0 1).bind fun w33 =>
if w33.1 = 0 then
(some (0, w33.2))
else
((wrF w33.2 x0 11 7 (.int (0))).bind fun σ43 =>
if ((16 : Int32)) < x2 then
(some ((-1), σ43))
else
((gR σ43 x0 11 1).bind fun v56 =>
(aL σ43 v56 0).bind fun v60 =>
(isO σ43 x0 11).bind fun _ =>
(fX12_areLetters σ43 x0 0 x2 v60).bind fun w61 =>
if w61 = 0 then
(some ((-1), σ43))
else
((isO σ43 x0 11).bind fun _ =>
(fX12_keeps σ43 x0).bind fun w70 =>
(isO w70 x0 11).bind fun _ =>
(fX12_spelled w70 x0 0 x2).bind fun w78 =>
(isO w70 x0 11).bind fun _ =>
(fX12_puts w70 x0 x1 w78).bind fun w81 =>
some (x2, w81))))
set_option maxHeartbeats 4000000 in
set_option maxRecDepth 100000 in
theorem jnX12_tell_m_32 {X : xX} {σ : St} {x0 : Nat} {x1 : Int32} {x2 : Int32} {t0 : Int32} {t1 : Nat}  {c : (Int32 × St)} (C : Ok X cX12_tell 3 RX12 rmX12_tell (some .int)) (hf : fJX12_tell_m_32 σ x0 x1 x2 t0 t1 = some c) (hE : ∀ r, c = r → xE1 X (some (.int r.1)) r.2) : V X (0, 0) σ 32 [(0, .ref (x0)), (1, .int (x1)), (2, .int (x2))] [.int (t0), .ref (t1)] := by
  unfold fJX12_tell_m_32 at hf
  refine x_iconst C dX12_tell_32 33 rfl 1 (by decide) ?_
  obtain ⟨o33, ho33, hf⟩ := x_bind hf
  obtain ⟨w33, hw33, hf⟩ := x_bind hf
  refine x_callVi C dX12_tell_33 36 rfl ho33 cl11.1 rfl (cX12_rightc hw33) kX12_right kvX12_right w1648 ⟨rfl, rfl⟩ ⟨Nat.le_of_ble_eq_true rfl, Nat.le_of_ble_eq_true rfl⟩ ⟨Nat.zero_le _, Nat.zero_le _⟩ rfl rfl (Nat.le_of_ble_eq_true rfl) ?_
  refine x_if_ne C dX12_tell_36 41 (by decide) 39 rfl (fun hc => ?_) (fun hc => ?_)
  · have hf := (if_neg hc).symm.trans hf
    refine x_aload_n C dX12_tell_41 42 rfl 0 rfl rfl ?_
    refine x_iconst C dX12_tell_42 43 rfl 0 (by decide) ?_
    obtain ⟨σ43, hσ43, hf⟩ := x_bind hf
    refine x_putX C dX12_tell_43 46 rfl hσ43 cl11 rfl w1450 rfl rfl rfl ?_
    refine x_iload_n C dX12_tell_46 47 rfl 2 rfl rfl ?_
    refine x_bipush C dX12_tell_47 49 rfl 16 (by decide) ?_
    refine x_icmp_gt C dX12_tell_49 67 (by decide) 52 rfl (fun hc => ?_) (fun hc => ?_)
    · have hf := (if_pos hc).symm.trans hf
      refine x_iconst C dX12_tell_67 68 rfl (-1) (by decide) ?_
      exact x_iret C (hE _ (Option.some.inj hf).symm) dX12_tell_68
    · have hf := (if_neg hc).symm.trans hf
      refine x_aload_n C dX12_tell_52 53 rfl 0 rfl rfl ?_
      refine x_iconst C dX12_tell_53 54 rfl 0 (by decide) ?_
      refine x_iload_n C dX12_tell_54 55 rfl 2 rfl rfl ?_
      refine x_aload_n C dX12_tell_55 56 rfl 0 rfl rfl ?_
      obtain ⟨v56, hv56, hf⟩ := x_bind hf
      refine x_getR C dX12_tell_56 59 rfl hv56 cl11 rfl w1444 ?_
      refine x_iconst C dX12_tell_59 60 rfl 0 (by decide) ?_
      obtain ⟨v60, hv60, hf⟩ := x_bind hf
      refine x_laload C dX12_tell_60 61 rfl hv60 ?_
      obtain ⟨o61, ho61, hf⟩ := x_bind hf
      obtain ⟨w61, hw61, hf⟩ := x_bind hf
      refine x_callVi C dX12_tell_61 64 rfl ho61 cl11.1 rfl (cX12_areLettersc hw61) kX12_areLetters kvX12_areLetters w1709 ⟨rfl, rfl⟩ ⟨Nat.le_of_ble_eq_true rfl, Nat.le_of_ble_eq_true rfl⟩ ⟨Nat.zero_le _, Nat.zero_le _⟩ rfl rfl (Nat.le_of_ble_eq_true rfl) ?_
      refine x_if_ne C dX12_tell_64 69 (by decide) 67 rfl (fun hc => ?_) (fun hc => ?_)
      · have hf := (if_neg hc).symm.trans hf
        refine x_aload_n C dX12_tell_69 70 rfl 0 rfl rfl ?_
        obtain ⟨o70, ho70, hf⟩ := x_bind hf
        obtain ⟨w70, hw70, hf⟩ := x_bind hf
        refine x_callVv C dX12_tell_70 73 rfl ho70 cl11.1 rfl (cX12_keepsc hw70) kX12_keeps kvX12_keeps w1772 ⟨rfl, rfl⟩ ⟨Nat.le_of_ble_eq_true rfl, Nat.le_of_ble_eq_true rfl⟩ ⟨Nat.zero_le _, Nat.zero_le _⟩ rfl rfl (Nat.le_of_ble_eq_true rfl) ?_
        refine x_aload_n C dX12_tell_73 74 rfl 0 rfl rfl ?_
        refine x_iload_n C dX12_tell_74 75 rfl 1 rfl rfl ?_
        refine x_aload_n C dX12_tell_75 76 rfl 0 rfl rfl ?_
        refine x_iconst C dX12_tell_76 77 rfl 0 (by decide) ?_
        refine x_iload_n C dX12_tell_77 78 rfl 2 rfl rfl ?_
        obtain ⟨o78, ho78, hf⟩ := x_bind hf
        obtain ⟨w78, hw78, hf⟩ := x_bind hf
        refine x_callVl C dX12_tell_78 81 rfl ho78 cl11.1 rfl (cX12_spelledc hw78) kX12_spelled kvX12_spelled w1713 ⟨rfl, rfl⟩ ⟨Nat.le_of_ble_eq_true rfl, Nat.le_of_ble_eq_true rfl⟩ ⟨Nat.zero_le _, Nat.zero_le _⟩ rfl rfl (Nat.le_of_ble_eq_true rfl) ?_
        obtain ⟨o81, ho81, hf⟩ := x_bind hf
        obtain ⟨w81, hw81, hf⟩ := x_bind hf
        refine x_callVv C dX12_tell_81 84 rfl ho81 cl11.1 rfl (cX12_putsc hw81) kX12_puts kvX12_puts w1852 ⟨rfl, rfl⟩ ⟨Nat.le_of_ble_eq_true rfl, Nat.le_of_ble_eq_true rfl⟩ ⟨Nat.zero_le _, Nat.zero_le _⟩ rfl rfl (Nat.le_of_ble_eq_true rfl) ?_
        refine x_iload_n C dX12_tell_84 85 rfl 2 rfl rfl ?_
        exact x_iret C (hE _ (Option.some.inj hf).symm) dX12_tell_85
      · have hf := (if_pos hc).symm.trans hf
        refine x_iconst C dX12_tell_67 68 rfl (-1) (by decide) ?_
        exact x_iret C (hE _ (Option.some.inj hf).symm) dX12_tell_68
  · have hf := (if_pos hc).symm.trans hf
    refine x_iconst C dX12_tell_39 40 rfl 0 (by decide) ?_
    exact x_iret C (hE _ (Option.some.inj hf).symm) dX12_tell_40
noncomputable def fJX12_tell_m_31 (σ : St) (x0 : Nat) (x1 : Int32) (x2 : Int32) (t0 : Nat) : Option ((Int32 × St)) :=
fJX12_tell_m_32 σ x0 x1 x2 0 t0
set_option maxHeartbeats 4000000 in
set_option maxRecDepth 100000 in
theorem jnX12_tell_m_31 {X : xX} {σ : St} {x0 : Nat} {x1 : Int32} {x2 : Int32} {t0 : Nat}  {c : (Int32 × St)} (C : Ok X cX12_tell 3 RX12 rmX12_tell (some .int)) (hf : fJX12_tell_m_31 σ x0 x1 x2 t0 = some c) (hE : ∀ r, c = r → xE1 X (some (.int r.1)) r.2) : V X (0, 0) σ 31 [(0, .ref (x0)), (1, .int (x1)), (2, .int (x2))] [.ref (t0)] := by
  unfold fJX12_tell_m_31 at hf
  refine x_iconst C dX12_tell_31 32 rfl 0 (by decide) ?_
  exact jnX12_tell_m_32 C hf hE
noncomputable def fX12_tell (σ : St) (x0 : Nat) (x1 : Int32) (x2 : Int32) : Option ((Int32 × St)) :=
(wrF σ x0 11 0 (.int (0))).bind fun σ2 =>
(fX12_isPlace x1).bind fun w7 =>
if w7 = 0 then
(fJX12_tell_m_31 σ2 x0 x1 x2 x0)
else
((gI σ2 x0 11 7).bind fun v17 =>
(fX12_isIn x2.toInt64 0 v17.toInt64).bind fun w21 =>
if w21 = 0 then
(fJX12_tell_m_31 σ2 x0 x1 x2 x0)
else
(fJX12_tell_m_32 σ2 x0 x1 x2 1 x0))
set_option maxHeartbeats 4000000 in
set_option maxRecDepth 100000 in
theorem cX12_tellc {l : Launch} {G : xG} {A : Nat → Prop} {σ : St} {x0 : Nat} {x1 : Int32} {x2 : Int32} {c : (Int32 × St)} (hf : fX12_tell σ x0 x1 x2 = some c) : Con l yX12_tell (xws yX12_tell cX12_tell 3 (some .int)) rmX12_tell [.ref (x0), .int (x1), .int (x2)] G A σ (some (.int c.1)) c.2 := by
  refine x_start rfl (Nat.le_of_ble_eq_true rfl) (fun X _ _ _ C hE0 => ?_)
  have hE : ∀ r, c = r → xE1 X (some (.int r.1)) r.2 := fun r e => e ▸ hE0
  show V X (0, 0) σ 0 [(0, .ref (x0)), (1, .int (x1)), (2, .int (x2))] []
  unfold fX12_tell at hf
  refine x_aload_n C dX12_tell_0 1 rfl 0 rfl rfl ?_
  refine x_iconst C dX12_tell_1 2 rfl 0 (by decide) ?_
  obtain ⟨σ2, hσ2, hf⟩ := x_bind hf
  refine x_putX C dX12_tell_2 5 rfl hσ2 cl11 rfl w1443 rfl rfl rfl ?_
  refine x_aload_n C dX12_tell_5 6 rfl 0 rfl rfl ?_
  refine x_iload_n C dX12_tell_6 7 rfl 1 rfl rfl ?_
  obtain ⟨w7, hw7, hf⟩ := x_bind hf
  refine x_callSi C dX12_tell_7 10 rfl (cX12_isPlacec hw7) kX12_isPlace ksX12_isPlace w1942 ⟨rfl, rfl⟩ ⟨Nat.le_of_ble_eq_true rfl, Nat.le_of_ble_eq_true rfl⟩ ⟨Nat.zero_le _, Nat.zero_le _⟩ rfl rfl (Nat.le_of_ble_eq_true rfl) ?_
  refine x_if_eq C dX12_tell_10 31 (by decide) 13 rfl (fun hc => ?_) (fun hc => ?_)
  · have hf := (if_pos hc).symm.trans hf
    exact jnX12_tell_m_31 C hf hE
  · have hf := (if_neg hc).symm.trans hf
    refine x_iload_n C dX12_tell_13 14 rfl 2 rfl rfl ?_
    refine x_i2l C dX12_tell_14 15 rfl ?_
    refine x_lconst C dX12_tell_15 16 rfl 0 (by decide) ?_
    refine x_aload_n C dX12_tell_16 17 rfl 0 rfl rfl ?_
    obtain ⟨v17, hv17, hf⟩ := x_bind hf
    refine x_getI C dX12_tell_17 20 rfl hv17 cl11 rfl w1450 ?_
    refine x_i2l C dX12_tell_20 21 rfl ?_
    obtain ⟨w21, hw21, hf⟩ := x_bind hf
    refine x_callSi C dX12_tell_21 24 rfl (cX12_isInc hw21) kX12_isIn ksX12_isIn w1645 ⟨rfl, rfl⟩ ⟨Nat.le_of_ble_eq_true rfl, Nat.le_of_ble_eq_true rfl⟩ ⟨Nat.zero_le _, Nat.zero_le _⟩ rfl rfl (Nat.le_of_ble_eq_true rfl) ?_
    refine x_if_eq C dX12_tell_24 31 (by decide) 27 rfl (fun hc => ?_) (fun hc => ?_)
    · have hf := (if_pos hc).symm.trans hf
      exact jnX12_tell_m_31 C hf hE
    · have hf := (if_neg hc).symm.trans hf
      refine x_iconst C dX12_tell_27 28 rfl 1 (by decide) ?_
      refine x_goto C dX12_tell_28 32 (by decide) ?_
      exact jnX12_tell_m_32 C hf hE
theorem dX12_thrown_0 : decode cX12_thrown 0 = .ok (.aload_n 0, 1) := by decide +kernel
theorem dX12_thrown_1 : decode cX12_thrown 1 = .ok (.getfield 1, 3) := by decide +kernel
theorem dX12_thrown_4 : decode cX12_thrown 4 = .ok (.ireturn, 1) := by decide +kernel
abbrev rmX12_thrown : Room := { frames := 0, cells := 0, slots := 0, locals := 0 }
noncomputable def fX12_thrown (σ : St) (x0 : Nat) : Option (Int32) :=
(gI σ x0 11 0).bind fun v1 =>
some v1
set_option maxHeartbeats 4000000 in
set_option maxRecDepth 100000 in
theorem cX12_thrownc {l : Launch} {G : xG} {A : Nat → Prop} {σ : St} {x0 : Nat} {c : Int32} (hf : fX12_thrown σ x0 = some c) : Con l yX12_thrown (xws yX12_thrown cX12_thrown 1 (some .int)) rmX12_thrown [.ref (x0)] G A σ (some (.int c)) σ := by
  refine x_start rfl (Nat.le_of_ble_eq_true rfl) (fun X _ _ _ C hE0 => ?_)
  have hE : ∀ r, c = r → xE1 X (some (.int r)) σ := fun r e => e ▸ hE0
  show V X (0, 0) σ 0 [(0, .ref (x0))] []
  unfold fX12_thrown at hf
  refine x_aload_n C dX12_thrown_0 1 rfl 0 rfl rfl ?_
  obtain ⟨v1, hv1, hf⟩ := x_bind hf
  refine x_getI C dX12_thrown_1 4 rfl hv1 cl11 rfl w1443 ?_
  exact x_iret C (hE _ (Option.some.inj hf).symm) dX12_thrown_4
theorem dX12_tidy_0 : decode cX12_tidy 0 = .ok (.aload_n 0, 1) := by decide +kernel
theorem dX12_tidy_1 : decode cX12_tidy 1 = .ok (.iconst 0, 1) := by decide +kernel
theorem dX12_tidy_2 : decode cX12_tidy 2 = .ok (.putfield 1, 3) := by decide +kernel
theorem dX12_tidy_5 : decode cX12_tidy 5 = .ok (.aload_n 0, 1) := by decide +kernel
theorem dX12_tidy_6 : decode cX12_tidy 6 = .ok (.invokevirtual 393, 3) := by decide +kernel
theorem dX12_tidy_9 : decode cX12_tidy 9 = .ok (.aload_n 0, 1) := by decide +kernel
theorem dX12_tidy_10 : decode cX12_tidy 10 = .ok (.invokevirtual 273, 3) := by decide +kernel
theorem dX12_tidy_13 : decode cX12_tidy 13 = .ok (.if_icmp .ge 5, 3) := by decide +kernel
theorem dX12_tidy_16 : decode cX12_tidy 16 = .ok (.iconst (-1), 1) := by decide +kernel
theorem dX12_tidy_17 : decode cX12_tidy 17 = .ok (.ireturn, 1) := by decide +kernel
theorem dX12_tidy_18 : decode cX12_tidy 18 = .ok (.aload_n 0, 1) := by decide +kernel
theorem dX12_tidy_19 : decode cX12_tidy 19 = .ok (.invokevirtual 384, 3) := by decide +kernel
theorem dX12_tidy_22 : decode cX12_tidy 22 = .ok (.iconst 0, 1) := by decide +kernel
theorem dX12_tidy_23 : decode cX12_tidy 23 = .ok (.istore_n 1, 1) := by decide +kernel
theorem dX12_tidy_24 : decode cX12_tidy 24 = .ok (.aload_n 0, 1) := by decide +kernel
theorem dX12_tidy_25 : decode cX12_tidy 25 = .ok (.invokevirtual 396, 3) := by decide +kernel
theorem dX12_tidy_28 : decode cX12_tidy 28 = .ok (.istore_n 2, 1) := by decide +kernel
theorem dX12_tidy_29 : decode cX12_tidy 29 = .ok (.iload_n 2, 1) := by decide +kernel
theorem dX12_tidy_30 : decode cX12_tidy 30 = .ok (.iconst (-1), 1) := by decide +kernel
theorem dX12_tidy_31 : decode cX12_tidy 31 = .ok (.if_icmp .eq 19, 3) := by decide +kernel
theorem dX12_tidy_34 : decode cX12_tidy 34 = .ok (.aload_n 0, 1) := by decide +kernel
theorem dX12_tidy_35 : decode cX12_tidy 35 = .ok (.iload_n 2, 1) := by decide +kernel
theorem dX12_tidy_36 : decode cX12_tidy 36 = .ok (.invokevirtual 399, 3) := by decide +kernel
theorem dX12_tidy_39 : decode cX12_tidy 39 = .ok (.iinc 1 1, 3) := by decide +kernel
theorem dX12_tidy_42 : decode cX12_tidy 42 = .ok (.aload_n 0, 1) := by decide +kernel
theorem dX12_tidy_43 : decode cX12_tidy 43 = .ok (.invokevirtual 396, 3) := by decide +kernel
theorem dX12_tidy_46 : decode cX12_tidy 46 = .ok (.istore_n 2, 1) := by decide +kernel
theorem dX12_tidy_47 : decode cX12_tidy 47 = .ok (.goto (-18), 3) := by decide +kernel
theorem dX12_tidy_50 : decode cX12_tidy 50 = .ok (.iconst 0, 1) := by decide +kernel
theorem dX12_tidy_51 : decode cX12_tidy 51 = .ok (.istore_n 2, 1) := by decide +kernel
theorem dX12_tidy_52 : decode cX12_tidy 52 = .ok (.iload_n 2, 1) := by decide +kernel
theorem dX12_tidy_53 : decode cX12_tidy 53 = .ok (.aload_n 0, 1) := by decide +kernel
theorem dX12_tidy_54 : decode cX12_tidy 54 = .ok (.invokevirtual 273, 3) := by decide +kernel
theorem dX12_tidy_57 : decode cX12_tidy 57 = .ok (.if_icmp .ge 28, 3) := by decide +kernel
theorem dX12_tidy_60 : decode cX12_tidy 60 = .ok (.aload_n 0, 1) := by decide +kernel
theorem dX12_tidy_61 : decode cX12_tidy 61 = .ok (.getfield 13, 3) := by decide +kernel
theorem dX12_tidy_64 : decode cX12_tidy 64 = .ok (.bipush 24, 2) := by decide +kernel
theorem dX12_tidy_66 : decode cX12_tidy 66 = .ok (.iload_n 2, 1) := by decide +kernel
theorem dX12_tidy_67 : decode cX12_tidy 67 = .ok (.iadd, 1) := by decide +kernel
theorem dX12_tidy_68 : decode cX12_tidy 68 = .ok (.aload_n 0, 1) := by decide +kernel
theorem dX12_tidy_69 : decode cX12_tidy 69 = .ok (.aload_n 0, 1) := by decide +kernel
theorem dX12_tidy_70 : decode cX12_tidy 70 = .ok (.iload_n 2, 1) := by decide +kernel
theorem dX12_tidy_71 : decode cX12_tidy 71 = .ok (.invokevirtual 288, 3) := by decide +kernel
theorem dX12_tidy_74 : decode cX12_tidy 74 = .ok (.iconst 0, 1) := by decide +kernel
theorem dX12_tidy_75 : decode cX12_tidy 75 = .ok (.invokevirtual 363, 3) := by decide +kernel
theorem dX12_tidy_78 : decode cX12_tidy 78 = .ok (.lastore, 1) := by decide +kernel
theorem dX12_tidy_79 : decode cX12_tidy 79 = .ok (.iinc 2 1, 3) := by decide +kernel
theorem dX12_tidy_82 : decode cX12_tidy 82 = .ok (.goto (-30), 3) := by decide +kernel
theorem dX12_tidy_85 : decode cX12_tidy 85 = .ok (.iconst 0, 1) := by decide +kernel
theorem dX12_tidy_86 : decode cX12_tidy 86 = .ok (.istore_n 2, 1) := by decide +kernel
theorem dX12_tidy_87 : decode cX12_tidy 87 = .ok (.iload_n 2, 1) := by decide +kernel
theorem dX12_tidy_88 : decode cX12_tidy 88 = .ok (.bipush 6, 2) := by decide +kernel
theorem dX12_tidy_90 : decode cX12_tidy 90 = .ok (.if_icmp .ge 19, 3) := by decide +kernel
theorem dX12_tidy_93 : decode cX12_tidy 93 = .ok (.aload_n 0, 1) := by decide +kernel
theorem dX12_tidy_94 : decode cX12_tidy 94 = .ok (.iload_n 2, 1) := by decide +kernel
theorem dX12_tidy_95 : decode cX12_tidy 95 = .ok (.aload_n 0, 1) := by decide +kernel
theorem dX12_tidy_96 : decode cX12_tidy 96 = .ok (.iload_n 2, 1) := by decide +kernel
theorem dX12_tidy_97 : decode cX12_tidy 97 = .ok (.invokevirtual 402, 3) := by decide +kernel
theorem dX12_tidy_100 : decode cX12_tidy 100 = .ok (.invokevirtual 405, 3) := by decide +kernel
theorem dX12_tidy_103 : decode cX12_tidy 103 = .ok (.iinc 2 1, 3) := by decide +kernel
theorem dX12_tidy_106 : decode cX12_tidy 106 = .ok (.goto (-19), 3) := by decide +kernel
theorem dX12_tidy_109 : decode cX12_tidy 109 = .ok (.iload_n 1, 1) := by decide +kernel
theorem dX12_tidy_110 : decode cX12_tidy 110 = .ok (.ireturn, 1) := by decide +kernel
abbrev rmX12_tidy : Room := { frames := 8, cells := 0, slots := 0, locals := 204 }
noncomputable def fLX12_tidy_29 (x0 : Nat) (a : Int32 × Int32 × St) : Option ((Int32 × Int32 × St) ⊕ (Int32 × St)) :=
if a.2.1 = (((-1) : Int32)) then
(some (Sum.inr (a.1, a.2.2)))
else
((isO a.2.2 x0 11).bind fun _ =>
(fX12_drops a.2.2 x0 a.2.1).bind fun w36 =>
xlet (a.1 + 1) fun v39 =>
(isO w36 x0 11).bind fun _ =>
(fX12_idle w36 x0).bind fun w43 =>
some (Sum.inl (v39, w43, w36)))
set_option maxHeartbeats 4000000 in
set_option maxRecDepth 100000 in
theorem lpX12_tidy_29 {X : xX} {x0 : Nat}  {a0 : Int32 × Int32 × St} {b : Int32 × St} (C : Ok X cX12_tidy 3 RX12 rmX12_tidy (some .int)) (hb : iterP (fLX12_tidy_29 x0) a0 = some b) (hy0 : ∀ s, b = s → V X (0, 0) s.2 50 [(0, .ref (x0)), (1, .int (s.1))] []) : V X (0, 0) a0.2.2 29 [(0, .ref (x0)), (1, .int (a0.1)), (2, .int (a0.2.1))] [] := by
  obtain ⟨n, hn⟩ := iterP_some hb
  refine x_loop (P := fun a => V X (0, 0) a.2.2 29 [(0, .ref (x0)), (1, .int (a.1)), (2, .int (a.2.1))] []) ?_ n a0 hn
  intro a c hf hK hxx
  have hx0 : ∀ s, c = Sum.inr s → V X (0, 0) s.2 50 [(0, .ref (x0)), (1, .int (s.1))] [] := fun s e => hy0 s (hxx _ e).symm
  unfold fLX12_tidy_29 at hf
  refine x_iload_n C dX12_tidy_29 30 rfl 2 rfl rfl ?_
  refine x_iconst C dX12_tidy_30 31 rfl (-1) (by decide) ?_
  refine x_icmp_eq C dX12_tidy_31 50 (by decide) 34 rfl (fun hc => ?_) (fun hc => ?_)
  · have hf := (if_pos hc).symm.trans hf
    refine x_lv [0, 1] (lv' := [(0, .ref (x0)), (1, .int (a.1))]) rfl ?_
    exact hx0 _ (Option.some.inj hf).symm
  · have hf := (if_neg hc).symm.trans hf
    refine x_aload_n C dX12_tidy_34 35 rfl 0 rfl rfl ?_
    refine x_iload_n C dX12_tidy_35 36 rfl 2 rfl rfl ?_
    obtain ⟨o36, ho36, hf⟩ := x_bind hf
    obtain ⟨w36, hw36, hf⟩ := x_bind hf
    refine x_callVv C dX12_tidy_36 39 rfl ho36 cl11.1 rfl (cX12_dropsc hw36) kX12_drops kvX12_drops w1841 ⟨rfl, rfl⟩ ⟨Nat.le_of_ble_eq_true rfl, Nat.le_of_ble_eq_true rfl⟩ ⟨Nat.zero_le _, Nat.zero_le _⟩ rfl rfl (Nat.le_of_ble_eq_true rfl) ?_
    obtain ⟨v39, ev39, hf⟩ := xlet_some hf
    refine x_iinc C dX12_tidy_39 42 rfl 1 rfl v39 ev39 rfl [(1, .int (v39)), (0, .ref (x0)), (2, .int (a.2.1))] rfl ?_
    refine x_aload_n C dX12_tidy_42 43 rfl 1 rfl rfl ?_
    obtain ⟨o43, ho43, hf⟩ := x_bind hf
    obtain ⟨w43, hw43, hf⟩ := x_bind hf
    refine x_callVi C dX12_tidy_43 46 rfl ho43 cl11.1 rfl (cX12_idlec hw43) kX12_idle kvX12_idle w1834 ⟨rfl, rfl⟩ ⟨Nat.le_of_ble_eq_true rfl, Nat.le_of_ble_eq_true rfl⟩ ⟨Nat.zero_le _, Nat.zero_le _⟩ rfl rfl (Nat.le_of_ble_eq_true rfl) ?_
    refine x_istore_n C dX12_tidy_46 47 rfl rfl rfl [(2, .int (w43)), (1, .int (v39)), (0, .ref (x0))] rfl ?_
    refine x_goto C dX12_tidy_47 29 (by decide) ?_
    refine x_lv [2, 1, 0] (lv' := [(0, .ref (x0)), (1, .int (v39)), (2, .int (w43))]) rfl ?_
    exact hK _ (Option.some.inj hf).symm
noncomputable def fLX12_tidy_52 (x0 : Nat) (x1 : Int32) (a : Int32 × St) : Option ((Int32 × St) ⊕ (St)) :=
(isO a.2 x0 11).bind fun _ =>
(fX12_rules a.2 x0).bind fun w54 =>
if w54 ≤ a.1 then
(some (Sum.inr a.2))
else
((gR a.2 x0 11 1).bind fun v61 =>
(isO a.2 x0 11).bind fun _ =>
(fX12_rightOf a.2 x0 a.1).bind fun w71 =>
(isO a.2 x0 11).bind fun _ =>
(fX12_runs a.2 x0 w71 0).bind fun w75 =>
(sL w75.2 v61 (24 + a.1) w75.1).bind fun σ78 =>
xlet (a.1 + 1) fun v79 =>
some (Sum.inl (v79, σ78)))
set_option maxHeartbeats 4000000 in
set_option maxRecDepth 100000 in
theorem lpX12_tidy_52 {X : xX} {x0 : Nat} {x1 : Int32}  {a0 : Int32 × St} {b : St} (C : Ok X cX12_tidy 3 RX12 rmX12_tidy (some .int)) (hb : iterP (fLX12_tidy_52 x0 x1) a0 = some b) (hy0 : ∀ s, b = s → V X (0, 0) s 85 [(0, .ref (x0)), (1, .int (x1))] []) : V X (0, 0) a0.2 52 [(0, .ref (x0)), (1, .int (x1)), (2, .int (a0.1))] [] := by
  obtain ⟨n, hn⟩ := iterP_some hb
  refine x_loop (P := fun a => V X (0, 0) a.2 52 [(0, .ref (x0)), (1, .int (x1)), (2, .int (a.1))] []) ?_ n a0 hn
  intro a c hf hK hxx
  have hx0 : ∀ s, c = Sum.inr s → V X (0, 0) s 85 [(0, .ref (x0)), (1, .int (x1))] [] := fun s e => hy0 s (hxx _ e).symm
  unfold fLX12_tidy_52 at hf
  refine x_iload_n C dX12_tidy_52 53 rfl 2 rfl rfl ?_
  refine x_aload_n C dX12_tidy_53 54 rfl 0 rfl rfl ?_
  obtain ⟨o54, ho54, hf⟩ := x_bind hf
  obtain ⟨w54, hw54, hf⟩ := x_bind hf
  refine x_callVi C dX12_tidy_54 57 rfl ho54 cl11.1 rfl (cX12_rulesc hw54) kX12_rules kvX12_rules w1735 ⟨rfl, rfl⟩ ⟨Nat.le_of_ble_eq_true rfl, Nat.le_of_ble_eq_true rfl⟩ ⟨Nat.zero_le _, Nat.zero_le _⟩ rfl rfl (Nat.le_of_ble_eq_true rfl) ?_
  refine x_icmp_ge C dX12_tidy_57 85 (by decide) 60 rfl (fun hc => ?_) (fun hc => ?_)
  · have hf := (if_pos hc).symm.trans hf
    refine x_lv [0, 1] (lv' := [(0, .ref (x0)), (1, .int (x1))]) rfl ?_
    exact hx0 _ (Option.some.inj hf).symm
  · have hf := (if_neg hc).symm.trans hf
    refine x_aload_n C dX12_tidy_60 61 rfl 0 rfl rfl ?_
    obtain ⟨v61, hv61, hf⟩ := x_bind hf
    refine x_getR C dX12_tidy_61 64 rfl hv61 cl11 rfl w1444 ?_
    refine x_bipush C dX12_tidy_64 66 rfl 24 (by decide) ?_
    refine x_iload_n C dX12_tidy_66 67 rfl 2 rfl rfl ?_
    refine x_iadd C dX12_tidy_67 68 rfl ?_
    refine x_aload_n C dX12_tidy_68 69 rfl 0 rfl rfl ?_
    refine x_aload_n C dX12_tidy_69 70 rfl 0 rfl rfl ?_
    refine x_iload_n C dX12_tidy_70 71 rfl 2 rfl rfl ?_
    obtain ⟨o71, ho71, hf⟩ := x_bind hf
    obtain ⟨w71, hw71, hf⟩ := x_bind hf
    refine x_callVl C dX12_tidy_71 74 rfl ho71 cl11.1 rfl (cX12_rightOfc hw71) kX12_rightOf kvX12_rightOf w1756 ⟨rfl, rfl⟩ ⟨Nat.le_of_ble_eq_true rfl, Nat.le_of_ble_eq_true rfl⟩ ⟨Nat.zero_le _, Nat.zero_le _⟩ rfl rfl (Nat.le_of_ble_eq_true rfl) ?_
    refine x_iconst C dX12_tidy_74 75 rfl 0 (by decide) ?_
    obtain ⟨o75, ho75, hf⟩ := x_bind hf
    obtain ⟨w75, hw75, hf⟩ := x_bind hf
    refine x_callVl C dX12_tidy_75 78 rfl ho75 cl11.1 rfl (cX12_runsc hw75) kX12_runs kvX12_runs w1802 ⟨rfl, rfl⟩ ⟨Nat.le_of_ble_eq_true rfl, Nat.le_of_ble_eq_true rfl⟩ ⟨Nat.zero_le _, Nat.zero_le _⟩ rfl rfl (Nat.le_of_ble_eq_true rfl) ?_
    obtain ⟨σ78, hσ78, hf⟩ := x_bind hf
    refine x_lastore C dX12_tidy_78 79 rfl hσ78 ?_
    obtain ⟨v79, ev79, hf⟩ := xlet_some hf
    refine x_iinc C dX12_tidy_79 82 rfl 2 rfl v79 ev79 rfl [(2, .int (v79)), (0, .ref (x0)), (1, .int (x1))] rfl ?_
    refine x_goto C dX12_tidy_82 52 (by decide) ?_
    refine x_lv [1, 2, 0] (lv' := [(0, .ref (x0)), (1, .int (x1)), (2, .int (v79))]) rfl ?_
    exact hK _ (Option.some.inj hf).symm
noncomputable def fLX12_tidy_87 (x0 : Nat) (x1 : Int32) (a : Int32 × St) : Option ((Int32 × St) ⊕ (St)) :=
if ((6 : Int32)) ≤ a.1 then
(some (Sum.inr a.2))
else
((isO a.2 x0 11).bind fun _ =>
(fX12_wordAt a.2 x0 a.1).bind fun w97 =>
(isO a.2 x0 11).bind fun _ =>
(fX12_puts a.2 x0 a.1 w97).bind fun w100 =>
xlet (a.1 + 1) fun v103 =>
some (Sum.inl (v103, w100)))
set_option maxHeartbeats 4000000 in
set_option maxRecDepth 100000 in
theorem lpX12_tidy_87 {X : xX} {x0 : Nat} {x1 : Int32}  {a0 : Int32 × St} {b : St} (C : Ok X cX12_tidy 3 RX12 rmX12_tidy (some .int)) (hb : iterP (fLX12_tidy_87 x0 x1) a0 = some b) (hy0 : ∀ s, b = s → V X (0, 0) s 109 [(1, .int (x1))] []) : V X (0, 0) a0.2 87 [(0, .ref (x0)), (1, .int (x1)), (2, .int (a0.1))] [] := by
  obtain ⟨n, hn⟩ := iterP_some hb
  refine x_loop (P := fun a => V X (0, 0) a.2 87 [(0, .ref (x0)), (1, .int (x1)), (2, .int (a.1))] []) ?_ n a0 hn
  intro a c hf hK hxx
  have hx0 : ∀ s, c = Sum.inr s → V X (0, 0) s 109 [(1, .int (x1))] [] := fun s e => hy0 s (hxx _ e).symm
  unfold fLX12_tidy_87 at hf
  refine x_iload_n C dX12_tidy_87 88 rfl 2 rfl rfl ?_
  refine x_bipush C dX12_tidy_88 90 rfl 6 (by decide) ?_
  refine x_icmp_ge C dX12_tidy_90 109 (by decide) 93 rfl (fun hc => ?_) (fun hc => ?_)
  · have hf := (if_pos hc).symm.trans hf
    refine x_lv [1] (lv' := [(1, .int (x1))]) rfl ?_
    exact hx0 _ (Option.some.inj hf).symm
  · have hf := (if_neg hc).symm.trans hf
    refine x_aload_n C dX12_tidy_93 94 rfl 0 rfl rfl ?_
    refine x_iload_n C dX12_tidy_94 95 rfl 2 rfl rfl ?_
    refine x_aload_n C dX12_tidy_95 96 rfl 0 rfl rfl ?_
    refine x_iload_n C dX12_tidy_96 97 rfl 2 rfl rfl ?_
    obtain ⟨o97, ho97, hf⟩ := x_bind hf
    obtain ⟨w97, hw97, hf⟩ := x_bind hf
    refine x_callVl C dX12_tidy_97 100 rfl ho97 cl11.1 rfl (cX12_wordAtc hw97) kX12_wordAt kvX12_wordAt w1845 ⟨rfl, rfl⟩ ⟨Nat.le_of_ble_eq_true rfl, Nat.le_of_ble_eq_true rfl⟩ ⟨Nat.zero_le _, Nat.zero_le _⟩ rfl rfl (Nat.le_of_ble_eq_true rfl) ?_
    obtain ⟨o100, ho100, hf⟩ := x_bind hf
    obtain ⟨w100, hw100, hf⟩ := x_bind hf
    refine x_callVv C dX12_tidy_100 103 rfl ho100 cl11.1 rfl (cX12_putsc hw100) kX12_puts kvX12_puts w1852 ⟨rfl, rfl⟩ ⟨Nat.le_of_ble_eq_true rfl, Nat.le_of_ble_eq_true rfl⟩ ⟨Nat.zero_le _, Nat.zero_le _⟩ rfl rfl (Nat.le_of_ble_eq_true rfl) ?_
    obtain ⟨v103, ev103, hf⟩ := xlet_some hf
    refine x_iinc C dX12_tidy_103 106 rfl 2 rfl v103 ev103 rfl [(2, .int (v103)), (0, .ref (x0)), (1, .int (x1))] rfl ?_
    refine x_goto C dX12_tidy_106 87 (by decide) ?_
    refine x_lv [1, 2, 0] (lv' := [(0, .ref (x0)), (1, .int (x1)), (2, .int (v103))]) rfl ?_
    exact hK _ (Option.some.inj hf).symm
noncomputable def fX12_tidy (σ : St) (x0 : Nat) : Option ((Int32 × St)) :=
(wrF σ x0 11 0 (.int (0))).bind fun σ2 =>
(isO σ2 x0 11).bind fun _ =>
(fX12_falling σ2 x0).bind fun w6 =>
(isO σ2 x0 11).bind fun _ =>
(fX12_rules σ2 x0).bind fun w10 =>
if w10 ≤ w6 then
((isO σ2 x0 11).bind fun _ =>
(fX12_keeps σ2 x0).bind fun w19 =>
(isO w19 x0 11).bind fun _ =>
(fX12_idle w19 x0).bind fun w25 =>
(iterP (fLX12_tidy_29 x0) (0, w25, w19)).bind fun b29 =>
(iterP (fLX12_tidy_52 x0 b29.1) (0, b29.2)).bind fun b52 =>
(iterP (fLX12_tidy_87 x0 b29.1) (0, b52)).bind fun b87 =>
some (b29.1, b87))
else
(some ((-1), σ2))
set_option maxHeartbeats 4000000 in
set_option maxRecDepth 100000 in
theorem cX12_tidyc {l : Launch} {G : xG} {A : Nat → Prop} {σ : St} {x0 : Nat} {c : (Int32 × St)} (hf : fX12_tidy σ x0 = some c) : Con l yX12_tidy (xws yX12_tidy cX12_tidy 3 (some .int)) rmX12_tidy [.ref (x0)] G A σ (some (.int c.1)) c.2 := by
  refine x_start rfl (Nat.le_of_ble_eq_true rfl) (fun X _ _ _ C hE0 => ?_)
  have hE : ∀ r, c = r → xE1 X (some (.int r.1)) r.2 := fun r e => e ▸ hE0
  show V X (0, 0) σ 0 [(0, .ref (x0))] []
  unfold fX12_tidy at hf
  refine x_aload_n C dX12_tidy_0 1 rfl 0 rfl rfl ?_
  refine x_iconst C dX12_tidy_1 2 rfl 0 (by decide) ?_
  obtain ⟨σ2, hσ2, hf⟩ := x_bind hf
  refine x_putX C dX12_tidy_2 5 rfl hσ2 cl11 rfl w1443 rfl rfl rfl ?_
  refine x_aload_n C dX12_tidy_5 6 rfl 0 rfl rfl ?_
  obtain ⟨o6, ho6, hf⟩ := x_bind hf
  obtain ⟨w6, hw6, hf⟩ := x_bind hf
  refine x_callVi C dX12_tidy_6 9 rfl ho6 cl11.1 rfl (cX12_fallingc hw6) kX12_falling kvX12_falling w1830 ⟨rfl, rfl⟩ ⟨Nat.le_of_ble_eq_true rfl, Nat.le_of_ble_eq_true rfl⟩ ⟨Nat.zero_le _, Nat.zero_le _⟩ rfl rfl (Nat.le_of_ble_eq_true rfl) ?_
  refine x_aload_n C dX12_tidy_9 10 rfl 0 rfl rfl ?_
  obtain ⟨o10, ho10, hf⟩ := x_bind hf
  obtain ⟨w10, hw10, hf⟩ := x_bind hf
  refine x_callVi C dX12_tidy_10 13 rfl ho10 cl11.1 rfl (cX12_rulesc hw10) kX12_rules kvX12_rules w1735 ⟨rfl, rfl⟩ ⟨Nat.le_of_ble_eq_true rfl, Nat.le_of_ble_eq_true rfl⟩ ⟨Nat.zero_le _, Nat.zero_le _⟩ rfl rfl (Nat.le_of_ble_eq_true rfl) ?_
  refine x_icmp_ge C dX12_tidy_13 18 (by decide) 16 rfl (fun hc => ?_) (fun hc => ?_)
  · have hf := (if_pos hc).symm.trans hf
    refine x_aload_n C dX12_tidy_18 19 rfl 0 rfl rfl ?_
    obtain ⟨o19, ho19, hf⟩ := x_bind hf
    obtain ⟨w19, hw19, hf⟩ := x_bind hf
    refine x_callVv C dX12_tidy_19 22 rfl ho19 cl11.1 rfl (cX12_keepsc hw19) kX12_keeps kvX12_keeps w1772 ⟨rfl, rfl⟩ ⟨Nat.le_of_ble_eq_true rfl, Nat.le_of_ble_eq_true rfl⟩ ⟨Nat.zero_le _, Nat.zero_le _⟩ rfl rfl (Nat.le_of_ble_eq_true rfl) ?_
    refine x_iconst C dX12_tidy_22 23 rfl 0 (by decide) ?_
    refine x_istore_n C dX12_tidy_23 24 rfl rfl rfl [(1, .int (0)), (0, .ref (x0))] rfl ?_
    refine x_aload_n C dX12_tidy_24 25 rfl 1 rfl rfl ?_
    obtain ⟨o25, ho25, hf⟩ := x_bind hf
    obtain ⟨w25, hw25, hf⟩ := x_bind hf
    refine x_callVi C dX12_tidy_25 28 rfl ho25 cl11.1 rfl (cX12_idlec hw25) kX12_idle kvX12_idle w1834 ⟨rfl, rfl⟩ ⟨Nat.le_of_ble_eq_true rfl, Nat.le_of_ble_eq_true rfl⟩ ⟨Nat.zero_le _, Nat.zero_le _⟩ rfl rfl (Nat.le_of_ble_eq_true rfl) ?_
    refine x_istore_n C dX12_tidy_28 29 rfl rfl rfl [(2, .int (w25)), (1, .int (0)), (0, .ref (x0))] rfl ?_
    obtain ⟨b29, hb29, hf⟩ := x_bind hf
    refine x_lv [2, 1, 0] (lv' := [(0, .ref (x0)), (1, .int (0)), (2, .int (w25))]) rfl ?_
    refine lpX12_tidy_29 C hb29 (fun s29 e29 => ?_)
    subst e29
    refine x_iconst C dX12_tidy_50 51 rfl 0 (by decide) ?_
    refine x_istore_n C dX12_tidy_51 52 rfl rfl rfl [(2, .int (0)), (0, .ref (x0)), (1, .int (b29.1))] rfl ?_
    obtain ⟨b52, hb52, hf⟩ := x_bind hf
    refine x_lv [1, 2, 0] (lv' := [(0, .ref (x0)), (1, .int (b29.1)), (2, .int (0))]) rfl ?_
    refine lpX12_tidy_52 C hb52 (fun s52 e52 => ?_)
    subst e52
    refine x_iconst C dX12_tidy_85 86 rfl 0 (by decide) ?_
    refine x_istore_n C dX12_tidy_86 87 rfl rfl rfl [(2, .int (0)), (0, .ref (x0)), (1, .int (b29.1))] rfl ?_
    obtain ⟨b87, hb87, hf⟩ := x_bind hf
    refine x_lv [1, 2, 0] (lv' := [(0, .ref (x0)), (1, .int (b29.1)), (2, .int (0))]) rfl ?_
    refine lpX12_tidy_87 C hb87 (fun s87 e87 => ?_)
    subst e87
    refine x_iload_n C dX12_tidy_109 110 rfl 0 rfl rfl ?_
    exact x_iret C (hE _ (Option.some.inj hf).symm) dX12_tidy_110
  · have hf := (if_neg hc).symm.trans hf
    refine x_iconst C dX12_tidy_16 17 rfl (-1) (by decide) ?_
    exact x_iret C (hE _ (Option.some.inj hf).symm) dX12_tidy_17
theorem dX12_undo_0 : decode cX12_undo 0 = .ok (.aload_n 0, 1) := by decide +kernel
theorem dX12_undo_1 : decode cX12_undo 1 = .ok (.iconst 0, 1) := by decide +kernel
theorem dX12_undo_2 : decode cX12_undo 2 = .ok (.putfield 1, 3) := by decide +kernel
theorem dX12_undo_5 : decode cX12_undo 5 = .ok (.aload_n 0, 1) := by decide +kernel
theorem dX12_undo_6 : decode cX12_undo 6 = .ok (.getfield 113, 3) := by decide +kernel
theorem dX12_undo_9 : decode cX12_undo 9 = .ok (.ifCond .ne 5, 3) := by decide +kernel
theorem dX12_undo_12 : decode cX12_undo 12 = .ok (.iconst (-1), 1) := by decide +kernel
theorem dX12_undo_13 : decode cX12_undo 13 = .ok (.ireturn, 1) := by decide +kernel
theorem dX12_undo_14 : decode cX12_undo 14 = .ok (.aload_n 0, 1) := by decide +kernel
theorem dX12_undo_15 : decode cX12_undo 15 = .ok (.dup, 1) := by decide +kernel
theorem dX12_undo_16 : decode cX12_undo 16 = .ok (.getfield 113, 3) := by decide +kernel
theorem dX12_undo_19 : decode cX12_undo 19 = .ok (.iconst 1, 1) := by decide +kernel
theorem dX12_undo_20 : decode cX12_undo 20 = .ok (.isub, 1) := by decide +kernel
theorem dX12_undo_21 : decode cX12_undo 21 = .ok (.putfield 113, 3) := by decide +kernel
theorem dX12_undo_24 : decode cX12_undo 24 = .ok (.aload_n 0, 1) := by decide +kernel
theorem dX12_undo_25 : decode cX12_undo 25 = .ok (.getfield 17, 3) := by decide +kernel
theorem dX12_undo_28 : decode cX12_undo 28 = .ok (.sipush 294, 3) := by decide +kernel
theorem dX12_undo_31 : decode cX12_undo 31 = .ok (.aload_n 0, 1) := by decide +kernel
theorem dX12_undo_32 : decode cX12_undo 32 = .ok (.getfield 113, 3) := by decide +kernel
theorem dX12_undo_35 : decode cX12_undo 35 = .ok (.imul, 1) := by decide +kernel
theorem dX12_undo_36 : decode cX12_undo 36 = .ok (.aload_n 0, 1) := by decide +kernel
theorem dX12_undo_37 : decode cX12_undo 37 = .ok (.getfield 13, 3) := by decide +kernel
theorem dX12_undo_40 : decode cX12_undo 40 = .ok (.iconst 0, 1) := by decide +kernel
theorem dX12_undo_41 : decode cX12_undo 41 = .ok (.invokestatic 116, 3) := by decide +kernel
theorem dX12_undo_44 : decode cX12_undo 44 = .ok (.aload_n 0, 1) := by decide +kernel
theorem dX12_undo_45 : decode cX12_undo 45 = .ok (.getfield 113, 3) := by decide +kernel
theorem dX12_undo_48 : decode cX12_undo 48 = .ok (.ireturn, 1) := by decide +kernel
abbrev rmX12_undo : Room := { frames := 1, cells := 0, slots := 0, locals := 24 }
noncomputable def fX12_undo (σ : St) (x0 : Nat) : Option ((Int32 × St)) :=
(wrF σ x0 11 0 (.int (0))).bind fun σ2 =>
(gI σ2 x0 11 5).bind fun v6 =>
if v6 = 0 then
(some ((-1), σ2))
else
((gI σ2 x0 11 5).bind fun v16 =>
(wrF σ2 x0 11 5 (.int (v16 - 1))).bind fun σ21 =>
(gR σ21 x0 11 2).bind fun v25 =>
(gI σ21 x0 11 5).bind fun v32 =>
(gR σ21 x0 11 1).bind fun v37 =>
(fX12_copies σ21 v25 (294 * v32) v37 0).bind fun w41 =>
(gI w41 x0 11 5).bind fun v45 =>
some (v45, w41))
set_option maxHeartbeats 4000000 in
set_option maxRecDepth 100000 in
theorem cX12_undoc {l : Launch} {G : xG} {A : Nat → Prop} {σ : St} {x0 : Nat} {c : (Int32 × St)} (hf : fX12_undo σ x0 = some c) : Con l yX12_undo (xws yX12_undo cX12_undo 1 (some .int)) rmX12_undo [.ref (x0)] G A σ (some (.int c.1)) c.2 := by
  refine x_start rfl (Nat.le_of_ble_eq_true rfl) (fun X _ _ _ C hE0 => ?_)
  have hE : ∀ r, c = r → xE1 X (some (.int r.1)) r.2 := fun r e => e ▸ hE0
  show V X (0, 0) σ 0 [(0, .ref (x0))] []
  unfold fX12_undo at hf
  refine x_aload_n C dX12_undo_0 1 rfl 0 rfl rfl ?_
  refine x_iconst C dX12_undo_1 2 rfl 0 (by decide) ?_
  obtain ⟨σ2, hσ2, hf⟩ := x_bind hf
  refine x_putX C dX12_undo_2 5 rfl hσ2 cl11 rfl w1443 rfl rfl rfl ?_
  refine x_aload_n C dX12_undo_5 6 rfl 0 rfl rfl ?_
  obtain ⟨v6, hv6, hf⟩ := x_bind hf
  refine x_getI C dX12_undo_6 9 rfl hv6 cl11 rfl w1448 ?_
  refine x_if_ne C dX12_undo_9 14 (by decide) 12 rfl (fun hc => ?_) (fun hc => ?_)
  · have hf := (if_neg hc).symm.trans hf
    refine x_aload_n C dX12_undo_14 15 rfl 0 rfl rfl ?_
    refine x_dup C dX12_undo_15 16 rfl rfl ?_
    obtain ⟨v16, hv16, hf⟩ := x_bind hf
    refine x_getI C dX12_undo_16 19 rfl hv16 cl11 rfl w1448 ?_
    refine x_iconst C dX12_undo_19 20 rfl 1 (by decide) ?_
    refine x_isub C dX12_undo_20 21 rfl ?_
    obtain ⟨σ21, hσ21, hf⟩ := x_bind hf
    refine x_putX C dX12_undo_21 24 rfl hσ21 cl11 rfl w1448 rfl rfl rfl ?_
    refine x_aload_n C dX12_undo_24 25 rfl 0 rfl rfl ?_
    obtain ⟨v25, hv25, hf⟩ := x_bind hf
    refine x_getR C dX12_undo_25 28 rfl hv25 cl11 rfl w1445 ?_
    refine x_sipush C dX12_undo_28 31 rfl 294 (by decide) ?_
    refine x_aload_n C dX12_undo_31 32 rfl 0 rfl rfl ?_
    obtain ⟨v32, hv32, hf⟩ := x_bind hf
    refine x_getI C dX12_undo_32 35 rfl hv32 cl11 rfl w1448 ?_
    refine x_imul C dX12_undo_35 36 rfl ?_
    refine x_aload_n C dX12_undo_36 37 rfl 0 rfl rfl ?_
    obtain ⟨v37, hv37, hf⟩ := x_bind hf
    refine x_getR C dX12_undo_37 40 rfl hv37 cl11 rfl w1444 ?_
    refine x_iconst C dX12_undo_40 41 rfl 0 (by decide) ?_
    obtain ⟨w41, hw41, hf⟩ := x_bind hf
    refine x_callSv C dX12_undo_41 44 rfl (cX12_copiesc hw41) kX12_copies ksX12_copies w1622 ⟨rfl, rfl⟩ ⟨Nat.le_of_ble_eq_true rfl, Nat.le_of_ble_eq_true rfl⟩ ⟨Nat.zero_le _, Nat.zero_le _⟩ rfl rfl (Nat.le_of_ble_eq_true rfl) ?_
    refine x_aload_n C dX12_undo_44 45 rfl 0 rfl rfl ?_
    obtain ⟨v45, hv45, hf⟩ := x_bind hf
    refine x_getI C dX12_undo_45 48 rfl hv45 cl11 rfl w1448 ?_
    exact x_iret C (hE _ (Option.some.inj hf).symm) dX12_undo_48
  · have hf := (if_pos hc).symm.trans hf
    refine x_iconst C dX12_undo_12 13 rfl (-1) (by decide) ?_
    exact x_iret C (hE _ (Option.some.inj hf).symm) dX12_undo_13
theorem dX12_word_0 : decode cX12_word 0 = .ok (.aload_n 0, 1) := by decide +kernel
theorem dX12_word_1 : decode cX12_word 1 = .ok (.iconst 0, 1) := by decide +kernel
theorem dX12_word_2 : decode cX12_word 2 = .ok (.putfield 1, 3) := by decide +kernel
theorem dX12_word_5 : decode cX12_word 5 = .ok (.aload_n 0, 1) := by decide +kernel
theorem dX12_word_6 : decode cX12_word 6 = .ok (.iload_n 1, 1) := by decide +kernel
theorem dX12_word_7 : decode cX12_word 7 = .ok (.invokestatic 452, 3) := by decide +kernel
theorem dX12_word_10 : decode cX12_word 10 = .ok (.ifCond .eq 19, 3) := by decide +kernel
theorem dX12_word_13 : decode cX12_word 13 = .ok (.iload_n 2, 1) := by decide +kernel
theorem dX12_word_14 : decode cX12_word 14 = .ok (.i2l, 1) := by decide +kernel
theorem dX12_word_15 : decode cX12_word 15 = .ok (.lconst 0, 1) := by decide +kernel
theorem dX12_word_16 : decode cX12_word 16 = .ok (.ldc2_w 455, 3) := by decide +kernel
theorem dX12_word_19 : decode cX12_word 19 = .ok (.invokestatic 130, 3) := by decide +kernel
theorem dX12_word_22 : decode cX12_word 22 = .ok (.ifCond .eq 7, 3) := by decide +kernel
theorem dX12_word_25 : decode cX12_word 25 = .ok (.iconst 1, 1) := by decide +kernel
theorem dX12_word_26 : decode cX12_word 26 = .ok (.goto 4, 3) := by decide +kernel
theorem dX12_word_29 : decode cX12_word 29 = .ok (.iconst 0, 1) := by decide +kernel
theorem dX12_word_30 : decode cX12_word 30 = .ok (.iconst 1, 1) := by decide +kernel
theorem dX12_word_31 : decode cX12_word 31 = .ok (.invokevirtual 265, 3) := by decide +kernel
theorem dX12_word_34 : decode cX12_word 34 = .ok (.ifCond .ne 5, 3) := by decide +kernel
theorem dX12_word_37 : decode cX12_word 37 = .ok (.iconst 0, 1) := by decide +kernel
theorem dX12_word_38 : decode cX12_word 38 = .ok (.ireturn, 1) := by decide +kernel
theorem dX12_word_39 : decode cX12_word 39 = .ok (.aload_n 0, 1) := by decide +kernel
theorem dX12_word_40 : decode cX12_word 40 = .ok (.iload_n 1, 1) := by decide +kernel
theorem dX12_word_41 : decode cX12_word 41 = .ok (.invokevirtual 402, 3) := by decide +kernel
theorem dX12_word_44 : decode cX12_word 44 = .ok (.lstore_n 3, 1) := by decide +kernel
theorem dX12_word_45 : decode cX12_word 45 = .ok (.iload_n 2, 1) := by decide +kernel
theorem dX12_word_46 : decode cX12_word 46 = .ok (.i2l, 1) := by decide +kernel
theorem dX12_word_47 : decode cX12_word 47 = .ok (.ldc2_w 420, 3) := by decide +kernel
theorem dX12_word_50 : decode cX12_word 50 = .ok (.ldc2_w 457, 3) := by decide +kernel
theorem dX12_word_53 : decode cX12_word 53 = .ok (.invokestatic 130, 3) := by decide +kernel
theorem dX12_word_56 : decode cX12_word 56 = .ok (.ifCond .eq 9, 3) := by decide +kernel
theorem dX12_word_59 : decode cX12_word 59 = .ok (.aload_n 0, 1) := by decide +kernel
theorem dX12_word_60 : decode cX12_word 60 = .ok (.iconst 0, 1) := by decide +kernel
theorem dX12_word_61 : decode cX12_word 61 = .ok (.lload_n 3, 1) := by decide +kernel
theorem dX12_word_62 : decode cX12_word 62 = .ok (.invokevirtual 459, 3) := by decide +kernel
theorem dX12_word_65 : decode cX12_word 65 = .ok (.iload_n 2, 1) := by decide +kernel
theorem dX12_word_66 : decode cX12_word 66 = .ok (.tableswitch 109 0 8 #[50, 55, 61, 67, 81, 88, 93, 98, 103], 50) := by decide +kernel
theorem dX12_word_116 : decode cX12_word 116 = .ok (.lload_n 3, 1) := by decide +kernel
theorem dX12_word_117 : decode cX12_word 117 = .ok (.invokestatic 136, 3) := by decide +kernel
theorem dX12_word_120 : decode cX12_word 120 = .ok (.ireturn, 1) := by decide +kernel
theorem dX12_word_121 : decode cX12_word 121 = .ok (.aload_n 0, 1) := by decide +kernel
theorem dX12_word_122 : decode cX12_word 122 = .ok (.lload_n 3, 1) := by decide +kernel
theorem dX12_word_123 : decode cX12_word 123 = .ok (.invokevirtual 152, 3) := by decide +kernel
theorem dX12_word_126 : decode cX12_word 126 = .ok (.ireturn, 1) := by decide +kernel
theorem dX12_word_127 : decode cX12_word 127 = .ok (.aload_n 0, 1) := by decide +kernel
theorem dX12_word_128 : decode cX12_word 128 = .ok (.lload_n 3, 1) := by decide +kernel
theorem dX12_word_129 : decode cX12_word 129 = .ok (.invokevirtual 309, 3) := by decide +kernel
theorem dX12_word_132 : decode cX12_word 132 = .ok (.ireturn, 1) := by decide +kernel
theorem dX12_word_133 : decode cX12_word 133 = .ok (.aload_n 0, 1) := by decide +kernel
theorem dX12_word_134 : decode cX12_word 134 = .ok (.lload_n 3, 1) := by decide +kernel
theorem dX12_word_135 : decode cX12_word 135 = .ok (.invokevirtual 322, 3) := by decide +kernel
theorem dX12_word_138 : decode cX12_word 138 = .ok (.ifCond .eq 7, 3) := by decide +kernel
theorem dX12_word_141 : decode cX12_word 141 = .ok (.iconst 1, 1) := by decide +kernel
theorem dX12_word_142 : decode cX12_word 142 = .ok (.goto 4, 3) := by decide +kernel
theorem dX12_word_145 : decode cX12_word 145 = .ok (.iconst 0, 1) := by decide +kernel
theorem dX12_word_146 : decode cX12_word 146 = .ok (.ireturn, 1) := by decide +kernel
theorem dX12_word_147 : decode cX12_word 147 = .ok (.aload_n 0, 1) := by decide +kernel
theorem dX12_word_148 : decode cX12_word 148 = .ok (.getfield 49, 3) := by decide +kernel
theorem dX12_word_151 : decode cX12_word 151 = .ok (.iconst 0, 1) := by decide +kernel
theorem dX12_word_152 : decode cX12_word 152 = .ok (.iaload, 1) := by decide +kernel
theorem dX12_word_153 : decode cX12_word 153 = .ok (.ireturn, 1) := by decide +kernel
theorem dX12_word_154 : decode cX12_word 154 = .ok (.aload_n 0, 1) := by decide +kernel
theorem dX12_word_155 : decode cX12_word 155 = .ok (.invokevirtual 462, 3) := by decide +kernel
theorem dX12_word_158 : decode cX12_word 158 = .ok (.ireturn, 1) := by decide +kernel
theorem dX12_word_159 : decode cX12_word 159 = .ok (.aload_n 0, 1) := by decide +kernel
theorem dX12_word_160 : decode cX12_word 160 = .ok (.invokevirtual 465, 3) := by decide +kernel
theorem dX12_word_163 : decode cX12_word 163 = .ok (.ireturn, 1) := by decide +kernel
theorem dX12_word_164 : decode cX12_word 164 = .ok (.aload_n 0, 1) := by decide +kernel
theorem dX12_word_165 : decode cX12_word 165 = .ok (.invokevirtual 468, 3) := by decide +kernel
theorem dX12_word_168 : decode cX12_word 168 = .ok (.ireturn, 1) := by decide +kernel
theorem dX12_word_169 : decode cX12_word 169 = .ok (.aload_n 0, 1) := by decide +kernel
theorem dX12_word_170 : decode cX12_word 170 = .ok (.iload_n 1, 1) := by decide +kernel
theorem dX12_word_171 : decode cX12_word 171 = .ok (.invokevirtual 471, 3) := by decide +kernel
theorem dX12_word_174 : decode cX12_word 174 = .ok (.ireturn, 1) := by decide +kernel
theorem dX12_word_175 : decode cX12_word 175 = .ok (.aload_n 0, 1) := by decide +kernel
theorem dX12_word_176 : decode cX12_word 176 = .ok (.iload_n 1, 1) := by decide +kernel
theorem dX12_word_177 : decode cX12_word 177 = .ok (.invokevirtual 474, 3) := by decide +kernel
theorem dX12_word_180 : decode cX12_word 180 = .ok (.aload_n 0, 1) := by decide +kernel
theorem dX12_word_181 : decode cX12_word 181 = .ok (.iload_n 1, 1) := by decide +kernel
theorem dX12_word_182 : decode cX12_word 182 = .ok (.invokevirtual 477, 3) := by decide +kernel
theorem dX12_word_185 : decode cX12_word 185 = .ok (.ireturn, 1) := by decide +kernel
abbrev rmX12_word : Room := { frames := 7, cells := 0, slots := 0, locals := 175 }
noncomputable def fJX12_word_m_65 (σ : St) (x0 : Nat) (x1 : Int32) (x2 : Int32) (x3 : Int64)  : Option ((Int32 × St)) :=
if x2.toInt < 0 ∨ 8 < x2.toInt then
((isO σ x0 11).bind fun _ =>
(fX12_laysDrawing σ x0 x1).bind fun w177 =>
(isO w177 x0 11).bind fun _ =>
(fX12_rounds w177 x0 x1).bind fun w182 =>
some (w182, w177))
else
(if x2 = 0 then
((fX12_length x3).bind fun w117 =>
some (w117, σ))
else
(if x2 = 1 then
((isO σ x0 11).bind fun _ =>
(fX12_weightOf σ x0 x3).bind fun w123 =>
some (w123, σ))
else
(if x2 = 2 then
((isO σ x0 11).bind fun _ =>
(fX12_stepsIn σ x0 x3).bind fun w129 =>
some (w129.1, w129.2))
else
(if x2 = 3 then
((isO σ x0 11).bind fun _ =>
(fX12_isNormal σ x0 x3).bind fun w135 =>
if w135.1 = 0 then
(some (0, w135.2))
else
(some (1, w135.2)))
else
(if x2 = 4 then
((gR σ x0 11 27).bind fun v148 =>
(aI σ v148 0 0).bind fun v152 =>
some (v152, σ))
else
(if x2 = 5 then
((isO σ x0 11).bind fun _ =>
(fX12_normals σ x0).bind fun w155 =>
some (w155.1, w155.2))
else
(if x2 = 6 then
((isO σ x0 11).bind fun _ =>
(fX12_endOf σ x0).bind fun w160 =>
some (w160.1, w160.2))
else
(if x2 = 7 then
((isO σ x0 11).bind fun _ =>
(fX12_loopOf σ x0).bind fun w165 =>
some (w165.1, w165.2))
else
(if x2 = 8 then
((isO σ x0 11).bind fun _ =>
(fX12_stepsOf σ x0 x1).bind fun w171 =>
some (w171, σ))
else
none)))))))))
set_option maxHeartbeats 4000000 in
set_option maxRecDepth 100000 in
theorem jnX12_word_m_65 {X : xX} {σ : St} {x0 : Nat} {x1 : Int32} {x2 : Int32} {x3 : Int64}   {c : (Int32 × St)} (C : Ok X cX12_word 5 RX12 rmX12_word (some .int)) (hf : fJX12_word_m_65 σ x0 x1 x2 x3  = some c) (hE : ∀ r, c = r → xE1 X (some (.int r.1)) r.2) : V X (0, 0) σ 65 [(0, .ref (x0)), (1, .int (x1)), (2, .int (x2)), (3, .long (x3))] [] := by
  unfold fJX12_word_m_65 at hf
  refine x_iload_n C dX12_word_65 66 rfl 2 rfl rfl ?_
  by_cases hc : x2.toInt < 0 ∨ 8 < x2.toInt
  · have hf := (if_pos hc).symm.trans hf
    refine x_tableOut C dX12_word_66 hc 175 (by decide) ?_
    refine x_aload_n C dX12_word_175 176 rfl 0 rfl rfl ?_
    refine x_iload_n C dX12_word_176 177 rfl 1 rfl rfl ?_
    obtain ⟨o177, ho177, hf⟩ := x_bind hf
    obtain ⟨w177, hw177, hf⟩ := x_bind hf
    refine x_callVv C dX12_word_177 180 rfl ho177 cl11.1 rfl (cX12_laysDrawingc hw177) kX12_laysDrawing kvX12_laysDrawing w1984 ⟨rfl, rfl⟩ ⟨Nat.le_of_ble_eq_true rfl, Nat.le_of_ble_eq_true rfl⟩ ⟨Nat.zero_le _, Nat.zero_le _⟩ rfl rfl (Nat.le_of_ble_eq_true rfl) ?_
    refine x_aload_n C dX12_word_180 181 rfl 0 rfl rfl ?_
    refine x_iload_n C dX12_word_181 182 rfl 1 rfl rfl ?_
    obtain ⟨o182, ho182, hf⟩ := x_bind hf
    obtain ⟨w182, hw182, hf⟩ := x_bind hf
    refine x_callVi C dX12_word_182 185 rfl ho182 cl11.1 rfl (cX12_roundsc hw182) kX12_rounds kvX12_rounds w2022 ⟨rfl, rfl⟩ ⟨Nat.le_of_ble_eq_true rfl, Nat.le_of_ble_eq_true rfl⟩ ⟨Nat.zero_le _, Nat.zero_le _⟩ rfl rfl (Nat.le_of_ble_eq_true rfl) ?_
    exact x_iret C (hE _ (Option.some.inj hf).symm) dX12_word_185
  · have hf := (if_neg hc).symm.trans hf
    by_cases hj0 : x2 = 0
    · have hf := (if_pos hj0).symm.trans hf
      refine x_topi hj0 ?_
      refine x_tableIn C dX12_word_66 (by decide) (by decide) (off := 50) (by decide) 116 (by decide) ?_
      refine x_lload_n C dX12_word_116 117 rfl 3 rfl rfl ?_
      obtain ⟨w117, hw117, hf⟩ := x_bind hf
      refine x_callSi C dX12_word_117 120 rfl (cX12_lengthc hw117) kX12_length ksX12_length w1728 ⟨rfl, rfl⟩ ⟨Nat.le_of_ble_eq_true rfl, Nat.le_of_ble_eq_true rfl⟩ ⟨Nat.zero_le _, Nat.zero_le _⟩ rfl rfl (Nat.le_of_ble_eq_true rfl) ?_
      exact x_iret C (hE _ (Option.some.inj hf).symm) dX12_word_120
    · have hf := (if_neg hj0).symm.trans hf
      by_cases hj1 : x2 = 1
      · have hf := (if_pos hj1).symm.trans hf
        refine x_topi hj1 ?_
        refine x_tableIn C dX12_word_66 (by decide) (by decide) (off := 55) (by decide) 121 (by decide) ?_
        refine x_aload_n C dX12_word_121 122 rfl 0 rfl rfl ?_
        refine x_lload_n C dX12_word_122 123 rfl 3 rfl rfl ?_
        obtain ⟨o123, ho123, hf⟩ := x_bind hf
        obtain ⟨w123, hw123, hf⟩ := x_bind hf
        refine x_callVi C dX12_word_123 126 rfl ho123 cl11.1 rfl (cX12_weightOfc hw123) kX12_weightOf kvX12_weightOf w1764 ⟨rfl, rfl⟩ ⟨Nat.le_of_ble_eq_true rfl, Nat.le_of_ble_eq_true rfl⟩ ⟨Nat.zero_le _, Nat.zero_le _⟩ rfl rfl (Nat.le_of_ble_eq_true rfl) ?_
        exact x_iret C (hE _ (Option.some.inj hf).symm) dX12_word_126
      · have hf := (if_neg hj1).symm.trans hf
        by_cases hj2 : x2 = 2
        · have hf := (if_pos hj2).symm.trans hf
          refine x_topi hj2 ?_
          refine x_tableIn C dX12_word_66 (by decide) (by decide) (off := 61) (by decide) 127 (by decide) ?_
          refine x_aload_n C dX12_word_127 128 rfl 0 rfl rfl ?_
          refine x_lload_n C dX12_word_128 129 rfl 3 rfl rfl ?_
          obtain ⟨o129, ho129, hf⟩ := x_bind hf
          obtain ⟨w129, hw129, hf⟩ := x_bind hf
          refine x_callVi C dX12_word_129 132 rfl ho129 cl11.1 rfl (cX12_stepsInc hw129) kX12_stepsIn kvX12_stepsIn w1822 ⟨rfl, rfl⟩ ⟨Nat.le_of_ble_eq_true rfl, Nat.le_of_ble_eq_true rfl⟩ ⟨Nat.zero_le _, Nat.zero_le _⟩ rfl rfl (Nat.le_of_ble_eq_true rfl) ?_
          exact x_iret C (hE _ (Option.some.inj hf).symm) dX12_word_132
        · have hf := (if_neg hj2).symm.trans hf
          by_cases hj3 : x2 = 3
          · have hf := (if_pos hj3).symm.trans hf
            refine x_topi hj3 ?_
            refine x_tableIn C dX12_word_66 (by decide) (by decide) (off := 67) (by decide) 133 (by decide) ?_
            refine x_aload_n C dX12_word_133 134 rfl 0 rfl rfl ?_
            refine x_lload_n C dX12_word_134 135 rfl 3 rfl rfl ?_
            obtain ⟨o135, ho135, hf⟩ := x_bind hf
            obtain ⟨w135, hw135, hf⟩ := x_bind hf
            refine x_callVi C dX12_word_135 138 rfl ho135 cl11.1 rfl (cX12_isNormalc hw135) kX12_isNormal kvX12_isNormal w1806 ⟨rfl, rfl⟩ ⟨Nat.le_of_ble_eq_true rfl, Nat.le_of_ble_eq_true rfl⟩ ⟨Nat.zero_le _, Nat.zero_le _⟩ rfl rfl (Nat.le_of_ble_eq_true rfl) ?_
            refine x_if_eq C dX12_word_138 145 (by decide) 141 rfl (fun hc => ?_) (fun hc => ?_)
            · have hf := (if_pos hc).symm.trans hf
              refine x_iconst C dX12_word_145 146 rfl 0 (by decide) ?_
              exact x_iret C (hE _ (Option.some.inj hf).symm) dX12_word_146
            · have hf := (if_neg hc).symm.trans hf
              refine x_iconst C dX12_word_141 142 rfl 1 (by decide) ?_
              refine x_goto C dX12_word_142 146 (by decide) ?_
              exact x_iret C (hE _ (Option.some.inj hf).symm) dX12_word_146
          · have hf := (if_neg hj3).symm.trans hf
            by_cases hj4 : x2 = 4
            · have hf := (if_pos hj4).symm.trans hf
              refine x_topi hj4 ?_
              refine x_tableIn C dX12_word_66 (by decide) (by decide) (off := 81) (by decide) 147 (by decide) ?_
              refine x_aload_n C dX12_word_147 148 rfl 0 rfl rfl ?_
              obtain ⟨v148, hv148, hf⟩ := x_bind hf
              refine x_getR C dX12_word_148 151 rfl hv148 cl11 rfl w1470 ?_
              refine x_iconst C dX12_word_151 152 rfl 0 (by decide) ?_
              obtain ⟨v152, hv152, hf⟩ := x_bind hf
              refine x_iaload C dX12_word_152 153 rfl hv152 ?_
              exact x_iret C (hE _ (Option.some.inj hf).symm) dX12_word_153
            · have hf := (if_neg hj4).symm.trans hf
              by_cases hj5 : x2 = 5
              · have hf := (if_pos hj5).symm.trans hf
                refine x_topi hj5 ?_
                refine x_tableIn C dX12_word_66 (by decide) (by decide) (off := 88) (by decide) 154 (by decide) ?_
                refine x_aload_n C dX12_word_154 155 rfl 0 rfl rfl ?_
                obtain ⟨o155, ho155, hf⟩ := x_bind hf
                obtain ⟨w155, hw155, hf⟩ := x_bind hf
                refine x_callVi C dX12_word_155 158 rfl ho155 cl11.1 rfl (cX12_normalsc hw155) kX12_normals kvX12_normals w1964 ⟨rfl, rfl⟩ ⟨Nat.le_of_ble_eq_true rfl, Nat.le_of_ble_eq_true rfl⟩ ⟨Nat.zero_le _, Nat.zero_le _⟩ rfl rfl (Nat.le_of_ble_eq_true rfl) ?_
                exact x_iret C (hE _ (Option.some.inj hf).symm) dX12_word_158
              · have hf := (if_neg hj5).symm.trans hf
                by_cases hj6 : x2 = 6
                · have hf := (if_pos hj6).symm.trans hf
                  refine x_topi hj6 ?_
                  refine x_tableIn C dX12_word_66 (by decide) (by decide) (off := 93) (by decide) 159 (by decide) ?_
                  refine x_aload_n C dX12_word_159 160 rfl 0 rfl rfl ?_
                  obtain ⟨o160, ho160, hf⟩ := x_bind hf
                  obtain ⟨w160, hw160, hf⟩ := x_bind hf
                  refine x_callVi C dX12_word_160 163 rfl ho160 cl11.1 rfl (cX12_endOfc hw160) kX12_endOf kvX12_endOf w1968 ⟨rfl, rfl⟩ ⟨Nat.le_of_ble_eq_true rfl, Nat.le_of_ble_eq_true rfl⟩ ⟨Nat.zero_le _, Nat.zero_le _⟩ rfl rfl (Nat.le_of_ble_eq_true rfl) ?_
                  exact x_iret C (hE _ (Option.some.inj hf).symm) dX12_word_163
                · have hf := (if_neg hj6).symm.trans hf
                  by_cases hj7 : x2 = 7
                  · have hf := (if_pos hj7).symm.trans hf
                    refine x_topi hj7 ?_
                    refine x_tableIn C dX12_word_66 (by decide) (by decide) (off := 98) (by decide) 164 (by decide) ?_
                    refine x_aload_n C dX12_word_164 165 rfl 0 rfl rfl ?_
                    obtain ⟨o165, ho165, hf⟩ := x_bind hf
                    obtain ⟨w165, hw165, hf⟩ := x_bind hf
                    refine x_callVi C dX12_word_165 168 rfl ho165 cl11.1 rfl (cX12_loopOfc hw165) kX12_loopOf kvX12_loopOf w1972 ⟨rfl, rfl⟩ ⟨Nat.le_of_ble_eq_true rfl, Nat.le_of_ble_eq_true rfl⟩ ⟨Nat.zero_le _, Nat.zero_le _⟩ rfl rfl (Nat.le_of_ble_eq_true rfl) ?_
                    exact x_iret C (hE _ (Option.some.inj hf).symm) dX12_word_168
                  · have hf := (if_neg hj7).symm.trans hf
                    by_cases hj8 : x2 = 8
                    · have hf := (if_pos hj8).symm.trans hf
                      refine x_topi hj8 ?_
                      refine x_tableIn C dX12_word_66 (by decide) (by decide) (off := 103) (by decide) 169 (by decide) ?_
                      refine x_aload_n C dX12_word_169 170 rfl 0 rfl rfl ?_
                      refine x_iload_n C dX12_word_170 171 rfl 1 rfl rfl ?_
                      obtain ⟨o171, ho171, hf⟩ := x_bind hf
                      obtain ⟨w171, hw171, hf⟩ := x_bind hf
                      refine x_callVi C dX12_word_171 174 rfl ho171 cl11.1 rfl (cX12_stepsOfc hw171) kX12_stepsOf kvX12_stepsOf w1980 ⟨rfl, rfl⟩ ⟨Nat.le_of_ble_eq_true rfl, Nat.le_of_ble_eq_true rfl⟩ ⟨Nat.zero_le _, Nat.zero_le _⟩ rfl rfl (Nat.le_of_ble_eq_true rfl) ?_
                      exact x_iret C (hE _ (Option.some.inj hf).symm) dX12_word_174
                    · have hf := (if_neg hj8).symm.trans hf
                      cases hf
noncomputable def fJX12_word_m_30 (σ : St) (x0 : Nat) (x1 : Int32) (x2 : Int32) (t0 : Int32) (t1 : Nat) : Option ((Int32 × St)) :=
(isO σ t1 11).bind fun _ =>
(fX12_right σ t1 t0 1).bind fun w31 =>
if w31.1 = 0 then
(some (0, w31.2))
else
((isO w31.2 x0 11).bind fun _ =>
(fX12_wordAt w31.2 x0 x1).bind fun w41 =>
(fX12_isIn x2.toInt64 4 7).bind fun w53 =>
if w53 = 0 then
(fJX12_word_m_65 w31.2 x0 x1 x2 w41)
else
((isO w31.2 x0 11).bind fun _ =>
(fX12_laysReach w31.2 x0 0 w41).bind fun w62 =>
fJX12_word_m_65 w62 x0 x1 x2 w41))
set_option maxHeartbeats 4000000 in
set_option maxRecDepth 100000 in
theorem jnX12_word_m_30 {X : xX} {σ : St} {x0 : Nat} {x1 : Int32} {x2 : Int32} {t0 : Int32} {t1 : Nat}  {c : (Int32 × St)} (C : Ok X cX12_word 5 RX12 rmX12_word (some .int)) (hf : fJX12_word_m_30 σ x0 x1 x2 t0 t1 = some c) (hE : ∀ r, c = r → xE1 X (some (.int r.1)) r.2) : V X (0, 0) σ 30 [(0, .ref (x0)), (1, .int (x1)), (2, .int (x2))] [.int (t0), .ref (t1)] := by
  unfold fJX12_word_m_30 at hf
  refine x_iconst C dX12_word_30 31 rfl 1 (by decide) ?_
  obtain ⟨o31, ho31, hf⟩ := x_bind hf
  obtain ⟨w31, hw31, hf⟩ := x_bind hf
  refine x_callVi C dX12_word_31 34 rfl ho31 cl11.1 rfl (cX12_rightc hw31) kX12_right kvX12_right w1648 ⟨rfl, rfl⟩ ⟨Nat.le_of_ble_eq_true rfl, Nat.le_of_ble_eq_true rfl⟩ ⟨Nat.zero_le _, Nat.zero_le _⟩ rfl rfl (Nat.le_of_ble_eq_true rfl) ?_
  refine x_if_ne C dX12_word_34 39 (by decide) 37 rfl (fun hc => ?_) (fun hc => ?_)
  · have hf := (if_neg hc).symm.trans hf
    refine x_aload_n C dX12_word_39 40 rfl 0 rfl rfl ?_
    refine x_iload_n C dX12_word_40 41 rfl 1 rfl rfl ?_
    obtain ⟨o41, ho41, hf⟩ := x_bind hf
    obtain ⟨w41, hw41, hf⟩ := x_bind hf
    refine x_callVl C dX12_word_41 44 rfl ho41 cl11.1 rfl (cX12_wordAtc hw41) kX12_wordAt kvX12_wordAt w1845 ⟨rfl, rfl⟩ ⟨Nat.le_of_ble_eq_true rfl, Nat.le_of_ble_eq_true rfl⟩ ⟨Nat.zero_le _, Nat.zero_le _⟩ rfl rfl (Nat.le_of_ble_eq_true rfl) ?_
    refine x_lstore_n C dX12_word_44 45 rfl rfl rfl [(3, .long (w41)), (0, .ref (x0)), (1, .int (x1)), (2, .int (x2))] rfl ?_
    refine x_iload_n C dX12_word_45 46 rfl 3 rfl rfl ?_
    refine x_i2l C dX12_word_46 47 rfl ?_
    refine x_ldc2 C dX12_word_47 50 rfl w1883 ?_
    refine x_ldc2 C dX12_word_50 53 rfl w1951 ?_
    obtain ⟨w53, hw53, hf⟩ := x_bind hf
    refine x_callSi C dX12_word_53 56 rfl (cX12_isInc hw53) kX12_isIn ksX12_isIn w1645 ⟨rfl, rfl⟩ ⟨Nat.le_of_ble_eq_true rfl, Nat.le_of_ble_eq_true rfl⟩ ⟨Nat.zero_le _, Nat.zero_le _⟩ rfl rfl (Nat.le_of_ble_eq_true rfl) ?_
    refine x_if_eq C dX12_word_56 65 (by decide) 59 rfl (fun hc => ?_) (fun hc => ?_)
    · have hf := (if_pos hc).symm.trans hf
      refine x_lv [1, 2, 3, 0] (lv' := [(0, .ref (x0)), (1, .int (x1)), (2, .int (x2)), (3, .long (w41))]) rfl ?_
      exact jnX12_word_m_65 C hf hE
    · have hf := (if_neg hc).symm.trans hf
      refine x_aload_n C dX12_word_59 60 rfl 1 rfl rfl ?_
      refine x_iconst C dX12_word_60 61 rfl 0 (by decide) ?_
      refine x_lload_n C dX12_word_61 62 rfl 0 rfl rfl ?_
      obtain ⟨o62, ho62, hf⟩ := x_bind hf
      obtain ⟨w62, hw62, hf⟩ := x_bind hf
      refine x_callVv C dX12_word_62 65 rfl ho62 cl11.1 rfl (cX12_laysReachc hw62) kX12_laysReach kvX12_laysReach w1952 ⟨rfl, rfl⟩ ⟨Nat.le_of_ble_eq_true rfl, Nat.le_of_ble_eq_true rfl⟩ ⟨Nat.zero_le _, Nat.zero_le _⟩ rfl rfl (Nat.le_of_ble_eq_true rfl) ?_
      refine x_lv [1, 2, 3, 0] (lv' := [(0, .ref (x0)), (1, .int (x1)), (2, .int (x2)), (3, .long (w41))]) rfl ?_
      exact jnX12_word_m_65 C hf hE
  · have hf := (if_pos hc).symm.trans hf
    refine x_iconst C dX12_word_37 38 rfl 0 (by decide) ?_
    exact x_iret C (hE _ (Option.some.inj hf).symm) dX12_word_38
noncomputable def fJX12_word_m_29 (σ : St) (x0 : Nat) (x1 : Int32) (x2 : Int32) (t0 : Nat) : Option ((Int32 × St)) :=
fJX12_word_m_30 σ x0 x1 x2 0 t0
set_option maxHeartbeats 4000000 in
set_option maxRecDepth 100000 in
theorem jnX12_word_m_29 {X : xX} {σ : St} {x0 : Nat} {x1 : Int32} {x2 : Int32} {t0 : Nat}  {c : (Int32 × St)} (C : Ok X cX12_word 5 RX12 rmX12_word (some .int)) (hf : fJX12_word_m_29 σ x0 x1 x2 t0 = some c) (hE : ∀ r, c = r → xE1 X (some (.int r.1)) r.2) : V X (0, 0) σ 29 [(0, .ref (x0)), (1, .int (x1)), (2, .int (x2))] [.ref (t0)] := by
  unfold fJX12_word_m_29 at hf
  refine x_iconst C dX12_word_29 30 rfl 0 (by decide) ?_
  exact jnX12_word_m_30 C hf hE
noncomputable def fX12_word (σ : St) (x0 : Nat) (x1 : Int32) (x2 : Int32) : Option ((Int32 × St)) :=
(wrF σ x0 11 0 (.int (0))).bind fun σ2 =>
(fX12_isPlace x1).bind fun w7 =>
if w7 = 0 then
(fJX12_word_m_29 σ2 x0 x1 x2 x0)
else
((fX12_isIn x2.toInt64 0 9).bind fun w19 =>
if w19 = 0 then
(fJX12_word_m_29 σ2 x0 x1 x2 x0)
else
(fJX12_word_m_30 σ2 x0 x1 x2 1 x0))
set_option maxHeartbeats 4000000 in
set_option maxRecDepth 100000 in
theorem cX12_wordc {l : Launch} {G : xG} {A : Nat → Prop} {σ : St} {x0 : Nat} {x1 : Int32} {x2 : Int32} {c : (Int32 × St)} (hf : fX12_word σ x0 x1 x2 = some c) : Con l yX12_word (xws yX12_word cX12_word 5 (some .int)) rmX12_word [.ref (x0), .int (x1), .int (x2)] G A σ (some (.int c.1)) c.2 := by
  refine x_start rfl (Nat.le_of_ble_eq_true rfl) (fun X _ _ _ C hE0 => ?_)
  have hE : ∀ r, c = r → xE1 X (some (.int r.1)) r.2 := fun r e => e ▸ hE0
  show V X (0, 0) σ 0 [(0, .ref (x0)), (1, .int (x1)), (2, .int (x2))] []
  unfold fX12_word at hf
  refine x_aload_n C dX12_word_0 1 rfl 0 rfl rfl ?_
  refine x_iconst C dX12_word_1 2 rfl 0 (by decide) ?_
  obtain ⟨σ2, hσ2, hf⟩ := x_bind hf
  refine x_putX C dX12_word_2 5 rfl hσ2 cl11 rfl w1443 rfl rfl rfl ?_
  refine x_aload_n C dX12_word_5 6 rfl 0 rfl rfl ?_
  refine x_iload_n C dX12_word_6 7 rfl 1 rfl rfl ?_
  obtain ⟨w7, hw7, hf⟩ := x_bind hf
  refine x_callSi C dX12_word_7 10 rfl (cX12_isPlacec hw7) kX12_isPlace ksX12_isPlace w1942 ⟨rfl, rfl⟩ ⟨Nat.le_of_ble_eq_true rfl, Nat.le_of_ble_eq_true rfl⟩ ⟨Nat.zero_le _, Nat.zero_le _⟩ rfl rfl (Nat.le_of_ble_eq_true rfl) ?_
  refine x_if_eq C dX12_word_10 29 (by decide) 13 rfl (fun hc => ?_) (fun hc => ?_)
  · have hf := (if_pos hc).symm.trans hf
    exact jnX12_word_m_29 C hf hE
  · have hf := (if_neg hc).symm.trans hf
    refine x_iload_n C dX12_word_13 14 rfl 2 rfl rfl ?_
    refine x_i2l C dX12_word_14 15 rfl ?_
    refine x_lconst C dX12_word_15 16 rfl 0 (by decide) ?_
    refine x_ldc2 C dX12_word_16 19 rfl w1950 ?_
    obtain ⟨w19, hw19, hf⟩ := x_bind hf
    refine x_callSi C dX12_word_19 22 rfl (cX12_isInc hw19) kX12_isIn ksX12_isIn w1645 ⟨rfl, rfl⟩ ⟨Nat.le_of_ble_eq_true rfl, Nat.le_of_ble_eq_true rfl⟩ ⟨Nat.zero_le _, Nat.zero_le _⟩ rfl rfl (Nat.le_of_ble_eq_true rfl) ?_
    refine x_if_eq C dX12_word_22 29 (by decide) 25 rfl (fun hc => ?_) (fun hc => ?_)
    · have hf := (if_pos hc).symm.trans hf
      exact jnX12_word_m_29 C hf hE
    · have hf := (if_neg hc).symm.trans hf
      refine x_iconst C dX12_word_25 26 rfl 1 (by decide) ?_
      refine x_goto C dX12_word_26 30 (by decide) ?_
      exact jnX12_word_m_30 C hf hE
