/-! methods: X12_isIn2 X12_idle X12_image X12_weighs X12_letter X12_loopOf X12_made_ -/
theorem dX12_isIn2_0 : decode cX12_isIn2 0 = .ok (.lload_n 0, 1) := by decide +kernel
theorem dX12_isIn2_1 : decode cX12_isIn2 1 = .ok (.invokestatic 136, 3) := by decide +kernel
theorem dX12_isIn2_4 : decode cX12_isIn2 4 = .ok (.istore 4, 2) := by decide +kernel
theorem dX12_isIn2_6 : decode cX12_isIn2 6 = .ok (.iconst 0, 1) := by decide +kernel
theorem dX12_isIn2_7 : decode cX12_isIn2 7 = .ok (.istore 5, 2) := by decide +kernel
theorem dX12_isIn2_9 : decode cX12_isIn2 9 = .ok (.iload 5, 2) := by decide +kernel
theorem dX12_isIn2_11 : decode cX12_isIn2 11 = .ok (.iload 4, 2) := by decide +kernel
theorem dX12_isIn2_13 : decode cX12_isIn2 13 = .ok (.iadd, 1) := by decide +kernel
theorem dX12_isIn2_14 : decode cX12_isIn2 14 = .ok (.lload_n 2, 1) := by decide +kernel
theorem dX12_isIn2_15 : decode cX12_isIn2 15 = .ok (.invokestatic 136, 3) := by decide +kernel
theorem dX12_isIn2_18 : decode cX12_isIn2 18 = .ok (.if_icmp .gt 24, 3) := by decide +kernel
theorem dX12_isIn2_21 : decode cX12_isIn2 21 = .ok (.lload_n 2, 1) := by decide +kernel
theorem dX12_isIn2_22 : decode cX12_isIn2 22 = .ok (.iload 5, 2) := by decide +kernel
theorem dX12_isIn2_24 : decode cX12_isIn2 24 = .ok (.iload 4, 2) := by decide +kernel
theorem dX12_isIn2_26 : decode cX12_isIn2 26 = .ok (.invokestatic 144, 3) := by decide +kernel
theorem dX12_isIn2_29 : decode cX12_isIn2 29 = .ok (.lload_n 0, 1) := by decide +kernel
theorem dX12_isIn2_30 : decode cX12_isIn2 30 = .ok (.lcmp, 1) := by decide +kernel
theorem dX12_isIn2_31 : decode cX12_isIn2 31 = .ok (.ifCond .ne 5, 3) := by decide +kernel
theorem dX12_isIn2_34 : decode cX12_isIn2 34 = .ok (.iconst 1, 1) := by decide +kernel
theorem dX12_isIn2_35 : decode cX12_isIn2 35 = .ok (.ireturn, 1) := by decide +kernel
theorem dX12_isIn2_36 : decode cX12_isIn2 36 = .ok (.iinc 5 1, 3) := by decide +kernel
theorem dX12_isIn2_39 : decode cX12_isIn2 39 = .ok (.goto (-30), 3) := by decide +kernel
theorem dX12_isIn2_42 : decode cX12_isIn2 42 = .ok (.iconst 0, 1) := by decide +kernel
theorem dX12_isIn2_43 : decode cX12_isIn2 43 = .ok (.ireturn, 1) := by decide +kernel
abbrev rmX12_isIn2 : Room := { frames := 2, cells := 0, slots := 0, locals := 47 }
noncomputable def fLX12_isIn2_9 (x0 : Int64) (x2 : Int64) (x4 : Int32) (a : Int32) : Option ((Int32) ⊕ ((Unit) ⊕ (Unit))) :=
(fX12_length x2).bind fun w15 =>
if w15 < (a + x4) then
(some (Sum.inr (Sum.inr ())))
else
((fX12_part x2 a x4).bind fun w26 =>
if (lg_cmp w26 x0) = 0 then
(some (Sum.inr (Sum.inl ())))
else
(xlet (a + 1) fun v36 =>
some (Sum.inl v36)))
set_option maxHeartbeats 4000000 in
set_option maxRecDepth 100000 in
theorem lpX12_isIn2_9 {X : xX} {σ : St} {x0 : Int64} {x2 : Int64} {x4 : Int32}  {a0 : Int32} {b : (Unit) ⊕ (Unit)} (C : Ok X cX12_isIn2 6 RX12 rmX12_isIn2 (some .boolean)) (hb : iterP (fLX12_isIn2_9 x0 x2 x4) a0 = some b) (hy0 : ∀ s, b = (Sum.inl s) → V X (0, 0) σ 34 [] []) (hy1 : ∀ s, b = (Sum.inr s) → V X (0, 0) σ 42 [] []) : V X (0, 0) σ 9 [(0, .long (x0)), (2, .long (x2)), (4, .int (x4)), (5, .int (a0))] [] := by
  obtain ⟨n, hn⟩ := iterP_some hb
  refine x_loop (P := fun a => V X (0, 0) σ 9 [(0, .long (x0)), (2, .long (x2)), (4, .int (x4)), (5, .int (a))] []) ?_ n a0 hn
  intro a c hf hK hxx
  have hx0 : ∀ s, c = Sum.inr (Sum.inl s) → V X (0, 0) σ 34 [] [] := fun s e => hy0 s (hxx _ e).symm
  have hx1 : ∀ s, c = Sum.inr (Sum.inr s) → V X (0, 0) σ 42 [] [] := fun s e => hy1 s (hxx _ e).symm
  unfold fLX12_isIn2_9 at hf
  refine x_iload C dX12_isIn2_9 11 rfl 3 rfl ?_
  refine x_iload C dX12_isIn2_11 13 rfl 2 rfl ?_
  refine x_iadd C dX12_isIn2_13 14 rfl ?_
  refine x_lload_n C dX12_isIn2_14 15 rfl 1 rfl rfl ?_
  obtain ⟨w15, hw15, hf⟩ := x_bind hf
  refine x_callSi C dX12_isIn2_15 18 rfl (cX12_lengthc hw15) kX12_length ksX12_length w1728 ⟨rfl, rfl⟩ ⟨Nat.le_of_ble_eq_true rfl, Nat.le_of_ble_eq_true rfl⟩ ⟨Nat.zero_le _, Nat.zero_le _⟩ rfl rfl (Nat.le_of_ble_eq_true rfl) ?_
  refine x_icmp_gt C dX12_isIn2_18 42 (by decide) 21 rfl (fun hc => ?_) (fun hc => ?_)
  · have hf := (if_pos hc).symm.trans hf
    refine x_lv [] (lv' := []) rfl ?_
    exact hx1 _ (Option.some.inj hf).symm
  · have hf := (if_neg hc).symm.trans hf
    refine x_lload_n C dX12_isIn2_21 22 rfl 1 rfl rfl ?_
    refine x_iload C dX12_isIn2_22 24 rfl 3 rfl ?_
    refine x_iload C dX12_isIn2_24 26 rfl 2 rfl ?_
    obtain ⟨w26, hw26, hf⟩ := x_bind hf
    refine x_callSl C dX12_isIn2_26 29 rfl (cX12_partc hw26) kX12_part ksX12_part w1725 ⟨rfl, rfl⟩ ⟨Nat.le_of_ble_eq_true rfl, Nat.le_of_ble_eq_true rfl⟩ ⟨Nat.zero_le _, Nat.zero_le _⟩ rfl rfl (Nat.le_of_ble_eq_true rfl) ?_
    refine x_lload_n C dX12_isIn2_29 30 rfl 0 rfl rfl ?_
    refine x_lcmp C dX12_isIn2_30 31 rfl ?_
    refine x_if_ne C dX12_isIn2_31 36 (by decide) 34 rfl (fun hc => ?_) (fun hc => ?_)
    · have hf := (if_neg hc).symm.trans hf
      obtain ⟨v36, ev36, hf⟩ := xlet_some hf
      refine x_iinc C dX12_isIn2_36 39 rfl 3 rfl v36 ev36 rfl [(5, .int (v36)), (0, .long (x0)), (2, .long (x2)), (4, .int (x4))] rfl ?_
      refine x_goto C dX12_isIn2_39 9 (by decide) ?_
      refine x_lv [1, 2, 3, 0] (lv' := [(0, .long (x0)), (2, .long (x2)), (4, .int (x4)), (5, .int (v36))]) rfl ?_
      exact hK _ (Option.some.inj hf).symm
    · have hf := (if_pos hc).symm.trans hf
      refine x_lv [] (lv' := []) rfl ?_
      exact hx0 _ (Option.some.inj hf).symm
noncomputable def fX12_isIn2 (x0 : Int64) (x2 : Int64) : Option (Int32) :=
(fX12_length x0).bind fun w1 =>
(iterP (fLX12_isIn2_9 x0 x2 w1) 0).bind fun b9 =>
(match b9 with
| .inl s9 =>
some 1
| .inr s9 =>
some 0)
set_option maxHeartbeats 4000000 in
set_option maxRecDepth 100000 in
theorem cX12_isIn2c {l : Launch} {G : xG} {A : Nat → Prop} {σ : St} {x0 : Int64} {x2 : Int64} {c : Int32} (hf : fX12_isIn2 x0 x2 = some c) : Con l yX12_isIn2 (xws yX12_isIn2 cX12_isIn2 6 (some .boolean)) rmX12_isIn2 [.long (x0), .long (x2)] G A σ (some (.int c)) σ := by
  refine x_start rfl (Nat.le_of_ble_eq_true rfl) (fun X _ _ _ C hE0 => ?_)
  have hE : ∀ r, c = r → xE1 X (some (.int r)) σ := fun r e => e ▸ hE0
  show V X (0, 0) σ 0 [(0, .long (x0)), (2, .long (x2))] []
  unfold fX12_isIn2 at hf
  refine x_lload_n C dX12_isIn2_0 1 rfl 0 rfl rfl ?_
  obtain ⟨w1, hw1, hf⟩ := x_bind hf
  refine x_callSi C dX12_isIn2_1 4 rfl (cX12_lengthc hw1) kX12_length ksX12_length w1728 ⟨rfl, rfl⟩ ⟨Nat.le_of_ble_eq_true rfl, Nat.le_of_ble_eq_true rfl⟩ ⟨Nat.zero_le _, Nat.zero_le _⟩ rfl rfl (Nat.le_of_ble_eq_true rfl) ?_
  refine x_istore C dX12_isIn2_4 6 rfl rfl [(4, .int (w1)), (0, .long (x0)), (2, .long (x2))] rfl ?_
  refine x_iconst C dX12_isIn2_6 7 rfl 0 (by decide) ?_
  refine x_istore C dX12_isIn2_7 9 rfl rfl [(5, .int (0)), (4, .int (w1)), (0, .long (x0)), (2, .long (x2))] rfl ?_
  obtain ⟨b9, hb9, hf⟩ := x_bind hf
  refine x_lv [2, 3, 1, 0] (lv' := [(0, .long (x0)), (2, .long (x2)), (4, .int (w1)), (5, .int (0))]) rfl ?_
  refine lpX12_isIn2_9 C hb9 (fun s9 e9 => ?_) (fun s9 e9 => ?_)
  · subst e9
    try dsimp only at hf
    refine x_iconst C dX12_isIn2_34 35 rfl 1 (by decide) ?_
    exact x_zret C rfl (hE _ (Option.some.inj hf).symm) dX12_isIn2_35
  · subst e9
    try dsimp only at hf
    refine x_iconst C dX12_isIn2_42 43 rfl 0 (by decide) ?_
    exact x_zret C rfl (hE _ (Option.some.inj hf).symm) dX12_isIn2_43
theorem dX12_idle_0 : decode cX12_idle 0 = .ok (.iconst 0, 1) := by decide +kernel
theorem dX12_idle_1 : decode cX12_idle 1 = .ok (.istore_n 1, 1) := by decide +kernel
theorem dX12_idle_2 : decode cX12_idle 2 = .ok (.iload_n 1, 1) := by decide +kernel
theorem dX12_idle_3 : decode cX12_idle 3 = .ok (.aload_n 0, 1) := by decide +kernel
theorem dX12_idle_4 : decode cX12_idle 4 = .ok (.invokevirtual 273, 3) := by decide +kernel
theorem dX12_idle_7 : decode cX12_idle 7 = .ok (.if_icmp .ge 48, 3) := by decide +kernel
theorem dX12_idle_10 : decode cX12_idle 10 = .ok (.iconst 0, 1) := by decide +kernel
theorem dX12_idle_11 : decode cX12_idle 11 = .ok (.istore_n 2, 1) := by decide +kernel
theorem dX12_idle_12 : decode cX12_idle 12 = .ok (.iload_n 2, 1) := by decide +kernel
theorem dX12_idle_13 : decode cX12_idle 13 = .ok (.aload_n 0, 1) := by decide +kernel
theorem dX12_idle_14 : decode cX12_idle 14 = .ok (.invokevirtual 273, 3) := by decide +kernel
theorem dX12_idle_17 : decode cX12_idle 17 = .ok (.if_icmp .ge 32, 3) := by decide +kernel
theorem dX12_idle_20 : decode cX12_idle 20 = .ok (.iload_n 2, 1) := by decide +kernel
theorem dX12_idle_21 : decode cX12_idle 21 = .ok (.iload_n 1, 1) := by decide +kernel
theorem dX12_idle_22 : decode cX12_idle 22 = .ok (.if_icmp .eq 21, 3) := by decide +kernel
theorem dX12_idle_25 : decode cX12_idle 25 = .ok (.aload_n 0, 1) := by decide +kernel
theorem dX12_idle_26 : decode cX12_idle 26 = .ok (.iload_n 2, 1) := by decide +kernel
theorem dX12_idle_27 : decode cX12_idle 27 = .ok (.invokevirtual 285, 3) := by decide +kernel
theorem dX12_idle_30 : decode cX12_idle 30 = .ok (.aload_n 0, 1) := by decide +kernel
theorem dX12_idle_31 : decode cX12_idle 31 = .ok (.iload_n 1, 1) := by decide +kernel
theorem dX12_idle_32 : decode cX12_idle 32 = .ok (.invokevirtual 285, 3) := by decide +kernel
theorem dX12_idle_35 : decode cX12_idle 35 = .ok (.invokestatic 390, 3) := by decide +kernel
theorem dX12_idle_38 : decode cX12_idle 38 = .ok (.ifCond .eq 5, 3) := by decide +kernel
theorem dX12_idle_41 : decode cX12_idle 41 = .ok (.iload_n 1, 1) := by decide +kernel
theorem dX12_idle_42 : decode cX12_idle 42 = .ok (.ireturn, 1) := by decide +kernel
theorem dX12_idle_43 : decode cX12_idle 43 = .ok (.iinc 2 1, 3) := by decide +kernel
theorem dX12_idle_46 : decode cX12_idle 46 = .ok (.goto (-34), 3) := by decide +kernel
theorem dX12_idle_49 : decode cX12_idle 49 = .ok (.iinc 1 1, 3) := by decide +kernel
theorem dX12_idle_52 : decode cX12_idle 52 = .ok (.goto (-50), 3) := by decide +kernel
theorem dX12_idle_55 : decode cX12_idle 55 = .ok (.iconst (-1), 1) := by decide +kernel
theorem dX12_idle_56 : decode cX12_idle 56 = .ok (.ireturn, 1) := by decide +kernel
abbrev rmX12_idle : Room := { frames := 3, cells := 0, slots := 0, locals := 72 }
noncomputable def fLX12_idle_12 (σ : St) (x0 : Nat) (x1 : Int32) (a : Int32) : Option ((Int32) ⊕ ((Unit) ⊕ (Unit))) :=
(isO σ x0 11).bind fun _ =>
(fX12_rules σ x0).bind fun w14 =>
if w14 ≤ a then
(some (Sum.inr (Sum.inr ())))
else
(if a = x1 then
(xlet (a + 1) fun v43 =>
some (Sum.inl v43))
else
((isO σ x0 11).bind fun _ =>
(fX12_leftOf σ x0 a).bind fun w27 =>
(isO σ x0 11).bind fun _ =>
(fX12_leftOf σ x0 x1).bind fun w32 =>
(fX12_isIn2 w27 w32).bind fun w35 =>
if w35 = 0 then
(xlet (a + 1) fun v43 =>
some (Sum.inl v43))
else
(some (Sum.inr (Sum.inl ())))))
set_option maxHeartbeats 4000000 in
set_option maxRecDepth 100000 in
theorem lpX12_idle_12 {X : xX} {σ : St} {x0 : Nat} {x1 : Int32}  {a0 : Int32} {b : (Unit) ⊕ (Unit)} (C : Ok X cX12_idle 3 RX12 rmX12_idle (some .int)) (hb : iterP (fLX12_idle_12 σ x0 x1) a0 = some b) (hy0 : ∀ s, b = (Sum.inl s) → V X (0, 0) σ 41 [(1, .int (x1))] []) (hy1 : ∀ s, b = (Sum.inr s) → V X (0, 0) σ 49 [(0, .ref (x0)), (1, .int (x1))] []) : V X (0, 0) σ 12 [(0, .ref (x0)), (1, .int (x1)), (2, .int (a0))] [] := by
  obtain ⟨n, hn⟩ := iterP_some hb
  refine x_loop (P := fun a => V X (0, 0) σ 12 [(0, .ref (x0)), (1, .int (x1)), (2, .int (a))] []) ?_ n a0 hn
  intro a c hf hK hxx
  have hx0 : ∀ s, c = Sum.inr (Sum.inl s) → V X (0, 0) σ 41 [(1, .int (x1))] [] := fun s e => hy0 s (hxx _ e).symm
  have hx1 : ∀ s, c = Sum.inr (Sum.inr s) → V X (0, 0) σ 49 [(0, .ref (x0)), (1, .int (x1))] [] := fun s e => hy1 s (hxx _ e).symm
  unfold fLX12_idle_12 at hf
  refine x_iload_n C dX12_idle_12 13 rfl 2 rfl rfl ?_
  refine x_aload_n C dX12_idle_13 14 rfl 0 rfl rfl ?_
  obtain ⟨o14, ho14, hf⟩ := x_bind hf
  obtain ⟨w14, hw14, hf⟩ := x_bind hf
  refine x_callVi C dX12_idle_14 17 rfl ho14 cl11.1 rfl (cX12_rulesc hw14) kX12_rules kvX12_rules w1735 ⟨rfl, rfl⟩ ⟨Nat.le_of_ble_eq_true rfl, Nat.le_of_ble_eq_true rfl⟩ ⟨Nat.zero_le _, Nat.zero_le _⟩ rfl rfl (Nat.le_of_ble_eq_true rfl) ?_
  refine x_icmp_ge C dX12_idle_17 49 (by decide) 20 rfl (fun hc => ?_) (fun hc => ?_)
  · have hf := (if_pos hc).symm.trans hf
    refine x_lv [0, 1] (lv' := [(0, .ref (x0)), (1, .int (x1))]) rfl ?_
    exact hx1 _ (Option.some.inj hf).symm
  · have hf := (if_neg hc).symm.trans hf
    refine x_iload_n C dX12_idle_20 21 rfl 2 rfl rfl ?_
    refine x_iload_n C dX12_idle_21 22 rfl 1 rfl rfl ?_
    refine x_icmp_eq C dX12_idle_22 43 (by decide) 25 rfl (fun hc => ?_) (fun hc => ?_)
    · have hf := (if_pos hc).symm.trans hf
      obtain ⟨v43, ev43, hf⟩ := xlet_some hf
      refine x_iinc C dX12_idle_43 46 rfl 2 rfl v43 ev43 rfl [(2, .int (v43)), (0, .ref (x0)), (1, .int (x1))] rfl ?_
      refine x_goto C dX12_idle_46 12 (by decide) ?_
      refine x_lv [1, 2, 0] (lv' := [(0, .ref (x0)), (1, .int (x1)), (2, .int (v43))]) rfl ?_
      exact hK _ (Option.some.inj hf).symm
    · have hf := (if_neg hc).symm.trans hf
      refine x_aload_n C dX12_idle_25 26 rfl 0 rfl rfl ?_
      refine x_iload_n C dX12_idle_26 27 rfl 2 rfl rfl ?_
      obtain ⟨o27, ho27, hf⟩ := x_bind hf
      obtain ⟨w27, hw27, hf⟩ := x_bind hf
      refine x_callVl C dX12_idle_27 30 rfl ho27 cl11.1 rfl (cX12_leftOfc hw27) kX12_leftOf kvX12_leftOf w1752 ⟨rfl, rfl⟩ ⟨Nat.le_of_ble_eq_true rfl, Nat.le_of_ble_eq_true rfl⟩ ⟨Nat.zero_le _, Nat.zero_le _⟩ rfl rfl (Nat.le_of_ble_eq_true rfl) ?_
      refine x_aload_n C dX12_idle_30 31 rfl 0 rfl rfl ?_
      refine x_iload_n C dX12_idle_31 32 rfl 1 rfl rfl ?_
      obtain ⟨o32, ho32, hf⟩ := x_bind hf
      obtain ⟨w32, hw32, hf⟩ := x_bind hf
      refine x_callVl C dX12_idle_32 35 rfl ho32 cl11.1 rfl (cX12_leftOfc hw32) kX12_leftOf kvX12_leftOf w1752 ⟨rfl, rfl⟩ ⟨Nat.le_of_ble_eq_true rfl, Nat.le_of_ble_eq_true rfl⟩ ⟨Nat.zero_le _, Nat.zero_le _⟩ rfl rfl (Nat.le_of_ble_eq_true rfl) ?_
      obtain ⟨w35, hw35, hf⟩ := x_bind hf
      refine x_callSi C dX12_idle_35 38 rfl (cX12_isIn2c hw35) kX12_isIn2 ksX12_isIn2 w1838 ⟨rfl, rfl⟩ ⟨Nat.le_of_ble_eq_true rfl, Nat.le_of_ble_eq_true rfl⟩ ⟨Nat.zero_le _, Nat.zero_le _⟩ rfl rfl (Nat.le_of_ble_eq_true rfl) ?_
      refine x_if_eq C dX12_idle_38 43 (by decide) 41 rfl (fun hc => ?_) (fun hc => ?_)
      · have hf := (if_pos hc).symm.trans hf
        obtain ⟨v43, ev43, hf⟩ := xlet_some hf
        refine x_iinc C dX12_idle_43 46 rfl 2 rfl v43 ev43 rfl [(2, .int (v43)), (0, .ref (x0)), (1, .int (x1))] rfl ?_
        refine x_goto C dX12_idle_46 12 (by decide) ?_
        refine x_lv [1, 2, 0] (lv' := [(0, .ref (x0)), (1, .int (x1)), (2, .int (v43))]) rfl ?_
        exact hK _ (Option.some.inj hf).symm
      · have hf := (if_neg hc).symm.trans hf
        refine x_lv [1] (lv' := [(1, .int (x1))]) rfl ?_
        exact hx0 _ (Option.some.inj hf).symm
noncomputable def fLX12_idle_2 (σ : St) (x0 : Nat) (a : Int32) : Option ((Int32) ⊕ ((Int32) ⊕ (Unit))) :=
(isO σ x0 11).bind fun _ =>
(fX12_rules σ x0).bind fun w4 =>
if w4 ≤ a then
(some (Sum.inr (Sum.inr ())))
else
((iterP (fLX12_idle_12 σ x0 a) 0).bind fun b12 =>
(match b12 with
| .inl s12 =>
some (Sum.inr (Sum.inl a))
| .inr s12 =>
xlet (a + 1) fun v49 =>
some (Sum.inl v49)))
set_option maxHeartbeats 4000000 in
set_option maxRecDepth 100000 in
theorem lpX12_idle_2 {X : xX} {σ : St} {x0 : Nat}  {a0 : Int32} {b : (Int32) ⊕ (Unit)} (C : Ok X cX12_idle 3 RX12 rmX12_idle (some .int)) (hb : iterP (fLX12_idle_2 σ x0) a0 = some b) (hy0 : ∀ s, b = (Sum.inl s) → V X (0, 0) σ 41 [(1, .int (s))] []) (hy1 : ∀ s, b = (Sum.inr s) → V X (0, 0) σ 55 [] []) : V X (0, 0) σ 2 [(0, .ref (x0)), (1, .int (a0))] [] := by
  obtain ⟨n, hn⟩ := iterP_some hb
  refine x_loop (P := fun a => V X (0, 0) σ 2 [(0, .ref (x0)), (1, .int (a))] []) ?_ n a0 hn
  intro a c hf hK hxx
  have hx0 : ∀ s, c = Sum.inr (Sum.inl s) → V X (0, 0) σ 41 [(1, .int (s))] [] := fun s e => hy0 s (hxx _ e).symm
  have hx1 : ∀ s, c = Sum.inr (Sum.inr s) → V X (0, 0) σ 55 [] [] := fun s e => hy1 s (hxx _ e).symm
  unfold fLX12_idle_2 at hf
  refine x_iload_n C dX12_idle_2 3 rfl 1 rfl rfl ?_
  refine x_aload_n C dX12_idle_3 4 rfl 0 rfl rfl ?_
  obtain ⟨o4, ho4, hf⟩ := x_bind hf
  obtain ⟨w4, hw4, hf⟩ := x_bind hf
  refine x_callVi C dX12_idle_4 7 rfl ho4 cl11.1 rfl (cX12_rulesc hw4) kX12_rules kvX12_rules w1735 ⟨rfl, rfl⟩ ⟨Nat.le_of_ble_eq_true rfl, Nat.le_of_ble_eq_true rfl⟩ ⟨Nat.zero_le _, Nat.zero_le _⟩ rfl rfl (Nat.le_of_ble_eq_true rfl) ?_
  refine x_icmp_ge C dX12_idle_7 55 (by decide) 10 rfl (fun hc => ?_) (fun hc => ?_)
  · have hf := (if_pos hc).symm.trans hf
    refine x_lv [] (lv' := []) rfl ?_
    exact hx1 _ (Option.some.inj hf).symm
  · have hf := (if_neg hc).symm.trans hf
    refine x_iconst C dX12_idle_10 11 rfl 0 (by decide) ?_
    refine x_istore_n C dX12_idle_11 12 rfl rfl rfl [(2, .int (0)), (0, .ref (x0)), (1, .int (a))] rfl ?_
    obtain ⟨b12, hb12, hf⟩ := x_bind hf
    refine x_lv [1, 2, 0] (lv' := [(0, .ref (x0)), (1, .int (a)), (2, .int (0))]) rfl ?_
    refine lpX12_idle_12 C hb12 (fun s12 e12 => ?_) (fun s12 e12 => ?_)
    · subst e12
      try dsimp only at hf
      exact hx0 _ (Option.some.inj hf).symm
    · subst e12
      try dsimp only at hf
      obtain ⟨v49, ev49, hf⟩ := xlet_some hf
      refine x_iinc C dX12_idle_49 52 rfl 1 rfl v49 ev49 rfl [(1, .int (v49)), (0, .ref (x0))] rfl ?_
      refine x_goto C dX12_idle_52 2 (by decide) ?_
      refine x_lv [1, 0] (lv' := [(0, .ref (x0)), (1, .int (v49))]) rfl ?_
      exact hK _ (Option.some.inj hf).symm
noncomputable def fX12_idle (σ : St) (x0 : Nat) : Option (Int32) :=
(iterP (fLX12_idle_2 σ x0) 0).bind fun b2 =>
(match b2 with
| .inl s2 =>
some s2
| .inr s2 =>
some (-1))
set_option maxHeartbeats 4000000 in
set_option maxRecDepth 100000 in
theorem cX12_idlec {l : Launch} {G : xG} {A : Nat → Prop} {σ : St} {x0 : Nat} {c : Int32} (hf : fX12_idle σ x0 = some c) : Con l yX12_idle (xws yX12_idle cX12_idle 3 (some .int)) rmX12_idle [.ref (x0)] G A σ (some (.int c)) σ := by
  refine x_start rfl (Nat.le_of_ble_eq_true rfl) (fun X _ _ _ C hE0 => ?_)
  have hE : ∀ r, c = r → xE1 X (some (.int r)) σ := fun r e => e ▸ hE0
  show V X (0, 0) σ 0 [(0, .ref (x0))] []
  unfold fX12_idle at hf
  refine x_iconst C dX12_idle_0 1 rfl 0 (by decide) ?_
  refine x_istore_n C dX12_idle_1 2 rfl rfl rfl [(1, .int (0)), (0, .ref (x0))] rfl ?_
  obtain ⟨b2, hb2, hf⟩ := x_bind hf
  refine x_lv [1, 0] (lv' := [(0, .ref (x0)), (1, .int (0))]) rfl ?_
  refine lpX12_idle_2 C hb2 (fun s2 e2 => ?_) (fun s2 e2 => ?_)
  · subst e2
    try dsimp only at hf
    refine x_iload_n C dX12_idle_41 42 rfl 0 rfl rfl ?_
    exact x_iret C (hE _ (Option.some.inj hf).symm) dX12_idle_42
  · subst e2
    try dsimp only at hf
    refine x_iconst C dX12_idle_55 56 rfl (-1) (by decide) ?_
    exact x_iret C (hE _ (Option.some.inj hf).symm) dX12_idle_56
theorem dX12_image_0 : decode cX12_image 0 = .ok (.aload_n 0, 1) := by decide +kernel
theorem dX12_image_1 : decode cX12_image 1 = .ok (.iconst 0, 1) := by decide +kernel
theorem dX12_image_2 : decode cX12_image 2 = .ok (.putfield 1, 3) := by decide +kernel
theorem dX12_image_5 : decode cX12_image 5 = .ok (.aload_n 0, 1) := by decide +kernel
theorem dX12_image_6 : decode cX12_image 6 = .ok (.getfield 13, 3) := by decide +kernel
theorem dX12_image_9 : decode cX12_image 9 = .ok (.iconst 0, 1) := by decide +kernel
theorem dX12_image_10 : decode cX12_image 10 = .ok (.aload_n 0, 1) := by decide +kernel
theorem dX12_image_11 : decode cX12_image 11 = .ok (.getfield 20, 3) := by decide +kernel
theorem dX12_image_14 : decode cX12_image 14 = .ok (.iconst 0, 1) := by decide +kernel
theorem dX12_image_15 : decode cX12_image 15 = .ok (.invokestatic 116, 3) := by decide +kernel
theorem dX12_image_18 : decode cX12_image 18 = .ok (.aload_n 0, 1) := by decide +kernel
theorem dX12_image_19 : decode cX12_image 19 = .ok (.iconst 1, 1) := by decide +kernel
theorem dX12_image_20 : decode cX12_image 20 = .ok (.putfield 120, 3) := by decide +kernel
theorem dX12_image_23 : decode cX12_image 23 = .ok (.return_, 1) := by decide +kernel
abbrev rmX12_image : Room := { frames := 1, cells := 0, slots := 0, locals := 24 }
noncomputable def fX12_image (σ : St) (x0 : Nat) : Option (St) :=
(wrF σ x0 11 0 (.int (0))).bind fun σ2 =>
(gR σ2 x0 11 1).bind fun v6 =>
(gR σ2 x0 11 3).bind fun v11 =>
(fX12_copies σ2 v6 0 v11 0).bind fun w15 =>
(wrF w15 x0 11 4 (.int (1))).bind fun σ20 =>
some σ20
set_option maxHeartbeats 4000000 in
set_option maxRecDepth 100000 in
theorem cX12_imagec {l : Launch} {G : xG} {A : Nat → Prop} {σ : St} {x0 : Nat} {c : St} (hf : fX12_image σ x0 = some c) : Con l yX12_image (xws yX12_image cX12_image 1 none) rmX12_image [.ref (x0)] G A σ none c := by
  refine x_start rfl (Nat.le_of_ble_eq_true rfl) (fun X _ _ _ C hE0 => ?_)
  have hE : ∀ r, c = r → xE1 X none r := fun r e => e ▸ hE0
  show V X (0, 0) σ 0 [(0, .ref (x0))] []
  unfold fX12_image at hf
  refine x_aload_n C dX12_image_0 1 rfl 0 rfl rfl ?_
  refine x_iconst C dX12_image_1 2 rfl 0 (by decide) ?_
  obtain ⟨σ2, hσ2, hf⟩ := x_bind hf
  refine x_putX C dX12_image_2 5 rfl hσ2 cl11 rfl w1443 rfl rfl rfl ?_
  refine x_aload_n C dX12_image_5 6 rfl 0 rfl rfl ?_
  obtain ⟨v6, hv6, hf⟩ := x_bind hf
  refine x_getR C dX12_image_6 9 rfl hv6 cl11 rfl w1444 ?_
  refine x_iconst C dX12_image_9 10 rfl 0 (by decide) ?_
  refine x_aload_n C dX12_image_10 11 rfl 0 rfl rfl ?_
  obtain ⟨v11, hv11, hf⟩ := x_bind hf
  refine x_getR C dX12_image_11 14 rfl hv11 cl11 rfl w1446 ?_
  refine x_iconst C dX12_image_14 15 rfl 0 (by decide) ?_
  obtain ⟨w15, hw15, hf⟩ := x_bind hf
  refine x_callSv C dX12_image_15 18 rfl (cX12_copiesc hw15) kX12_copies ksX12_copies w1622 ⟨rfl, rfl⟩ ⟨Nat.le_of_ble_eq_true rfl, Nat.le_of_ble_eq_true rfl⟩ ⟨Nat.zero_le _, Nat.zero_le _⟩ rfl rfl (Nat.le_of_ble_eq_true rfl) ?_
  refine x_aload_n C dX12_image_18 19 rfl 0 rfl rfl ?_
  refine x_iconst C dX12_image_19 20 rfl 1 (by decide) ?_
  obtain ⟨σ20, hσ20, hf⟩ := x_bind hf
  refine x_putX C dX12_image_20 23 rfl hσ20 cl11 rfl w1447 rfl rfl rfl ?_
  exact x_vret C (hE _ (Option.some.inj hf).symm) dX12_image_23
theorem dX12_weighs_0 : decode cX12_weighs 0 = .ok (.iload_n 1, 1) := by decide +kernel
theorem dX12_weighs_1 : decode cX12_weighs 1 = .ok (.aload_n 0, 1) := by decide +kernel
theorem dX12_weighs_2 : decode cX12_weighs 2 = .ok (.invokevirtual 409, 3) := by decide +kernel
theorem dX12_weighs_5 : decode cX12_weighs 5 = .ok (.if_icmp .ne 8, 3) := by decide +kernel
theorem dX12_weighs_8 : decode cX12_weighs 8 = .ok (.aload_n 0, 1) := by decide +kernel
theorem dX12_weighs_9 : decode cX12_weighs 9 = .ok (.invokevirtual 428, 3) := by decide +kernel
theorem dX12_weighs_12 : decode cX12_weighs 12 = .ok (.ireturn, 1) := by decide +kernel
theorem dX12_weighs_13 : decode cX12_weighs 13 = .ok (.iconst 1, 1) := by decide +kernel
theorem dX12_weighs_14 : decode cX12_weighs 14 = .ok (.istore_n 2, 1) := by decide +kernel
theorem dX12_weighs_15 : decode cX12_weighs 15 = .ok (.iload_n 2, 1) := by decide +kernel
theorem dX12_weighs_16 : decode cX12_weighs 16 = .ok (.iconst 5, 1) := by decide +kernel
theorem dX12_weighs_17 : decode cX12_weighs 17 = .ok (.if_icmp .gt 28, 3) := by decide +kernel
theorem dX12_weighs_20 : decode cX12_weighs 20 = .ok (.aload_n 0, 1) := by decide +kernel
theorem dX12_weighs_21 : decode cX12_weighs 21 = .ok (.getfield 52, 3) := by decide +kernel
theorem dX12_weighs_24 : decode cX12_weighs 24 = .ok (.iload_n 1, 1) := by decide +kernel
theorem dX12_weighs_25 : decode cX12_weighs 25 = .ok (.iload_n 2, 1) := by decide +kernel
theorem dX12_weighs_26 : decode cX12_weighs 26 = .ok (.iastore, 1) := by decide +kernel
theorem dX12_weighs_27 : decode cX12_weighs 27 = .ok (.aload_n 0, 1) := by decide +kernel
theorem dX12_weighs_28 : decode cX12_weighs 28 = .ok (.iload_n 1, 1) := by decide +kernel
theorem dX12_weighs_29 : decode cX12_weighs 29 = .ok (.iconst 1, 1) := by decide +kernel
theorem dX12_weighs_30 : decode cX12_weighs 30 = .ok (.iadd, 1) := by decide +kernel
theorem dX12_weighs_31 : decode cX12_weighs 31 = .ok (.invokevirtual 431, 3) := by decide +kernel
theorem dX12_weighs_34 : decode cX12_weighs 34 = .ok (.ifCond .eq 5, 3) := by decide +kernel
theorem dX12_weighs_37 : decode cX12_weighs 37 = .ok (.iconst 1, 1) := by decide +kernel
theorem dX12_weighs_38 : decode cX12_weighs 38 = .ok (.ireturn, 1) := by decide +kernel
theorem dX12_weighs_39 : decode cX12_weighs 39 = .ok (.iinc 2 1, 3) := by decide +kernel
theorem dX12_weighs_42 : decode cX12_weighs 42 = .ok (.goto (-27), 3) := by decide +kernel
theorem dX12_weighs_45 : decode cX12_weighs 45 = .ok (.iconst 0, 1) := by decide +kernel
theorem dX12_weighs_46 : decode cX12_weighs 46 = .ok (.ireturn, 1) := by decide +kernel
abbrev rmX12_weighs_d0 : Room := { frames := 2, cells := 0, slots := 0, locals := 46 }
noncomputable def fLX12_weighs_d0_15 (x0 : Nat) (x1 : Int32) (a : Int32 × St) : Option ((Int32 × St) ⊕ ((St) ⊕ (St))) :=
if ((5 : Int32)) < a.1 then
(some (Sum.inr (Sum.inr a.2)))
else
((gR a.2 x0 11 35).bind fun v21 =>
(sI a.2 v21 x1 a.1).bind fun σ26 =>
(isO σ26 x0 11).bind fun _ =>
none)
set_option maxHeartbeats 4000000 in
set_option maxRecDepth 100000 in
theorem lpX12_weighs_d0_15 {X : xX} {x0 : Nat} {x1 : Int32}  {a0 : Int32 × St} {b : (St) ⊕ (St)} (C : Ok X cX12_weighs 3 RX12 rmX12_weighs_d0 (some .boolean)) (hb : iterP (fLX12_weighs_d0_15 x0 x1) a0 = some b) (hy0 : ∀ s, b = (Sum.inl s) → V X (0, 0) s 37 [] []) (hy1 : ∀ s, b = (Sum.inr s) → V X (0, 0) s 45 [] []) : V X (0, 0) a0.2 15 [(0, .ref (x0)), (1, .int (x1)), (2, .int (a0.1))] [] := by
  obtain ⟨n, hn⟩ := iterP_some hb
  refine x_loop (P := fun a => V X (0, 0) a.2 15 [(0, .ref (x0)), (1, .int (x1)), (2, .int (a.1))] []) ?_ n a0 hn
  intro a c hf hK hxx
  have hx0 : ∀ s, c = Sum.inr (Sum.inl s) → V X (0, 0) s 37 [] [] := fun s e => hy0 s (hxx _ e).symm
  have hx1 : ∀ s, c = Sum.inr (Sum.inr s) → V X (0, 0) s 45 [] [] := fun s e => hy1 s (hxx _ e).symm
  unfold fLX12_weighs_d0_15 at hf
  refine x_iload_n C dX12_weighs_15 16 rfl 2 rfl rfl ?_
  refine x_iconst C dX12_weighs_16 17 rfl 5 (by decide) ?_
  refine x_icmp_gt C dX12_weighs_17 45 (by decide) 20 rfl (fun hc => ?_) (fun hc => ?_)
  · have hf := (if_pos hc).symm.trans hf
    refine x_lv [] (lv' := []) rfl ?_
    exact hx1 _ (Option.some.inj hf).symm
  · have hf := (if_neg hc).symm.trans hf
    refine x_aload_n C dX12_weighs_20 21 rfl 0 rfl rfl ?_
    obtain ⟨v21, hv21, hf⟩ := x_bind hf
    refine x_getR C dX12_weighs_21 24 rfl hv21 cl11 rfl w1478 ?_
    refine x_iload_n C dX12_weighs_24 25 rfl 1 rfl rfl ?_
    refine x_iload_n C dX12_weighs_25 26 rfl 2 rfl rfl ?_
    obtain ⟨σ26, hσ26, hf⟩ := x_bind hf
    refine x_iastore C dX12_weighs_26 27 rfl hσ26 ?_
    refine x_aload_n C dX12_weighs_27 28 rfl 0 rfl rfl ?_
    refine x_iload_n C dX12_weighs_28 29 rfl 1 rfl rfl ?_
    refine x_iconst C dX12_weighs_29 30 rfl 1 (by decide) ?_
    refine x_iadd C dX12_weighs_30 31 rfl ?_
    obtain ⟨o31, ho31, hf⟩ := x_bind hf
    cases hf
noncomputable def fX12_weighs_d0 (σ : St) (x0 : Nat) (x1 : Int32) : Option ((Int32 × St)) :=
(isO σ x0 11).bind fun _ =>
(fX12_letters σ x0).bind fun w2 =>
if x1 = w2 then
((isO σ x0 11).bind fun _ =>
(fX12_doAllFall σ x0).bind fun w9 =>
(zok w9).bind fun z12 =>
some (z12, σ))
else
((iterP (fLX12_weighs_d0_15 x0 x1) (1, σ)).bind fun b15 =>
(match b15 with
| .inl s15 =>
some (1, s15)
| .inr s15 =>
some (0, s15)))
set_option maxHeartbeats 4000000 in
set_option maxRecDepth 100000 in
theorem cX12_weighs_d0c {l : Launch} {G : xG} {A : Nat → Prop} {σ : St} {x0 : Nat} {x1 : Int32} {c : (Int32 × St)} (hf : fX12_weighs_d0 σ x0 x1 = some c) : Con l yX12_weighs (xws yX12_weighs cX12_weighs 3 (some .boolean)) rmX12_weighs_d0 [.ref (x0), .int (x1)] G A σ (some (.int c.1)) c.2 := by
  refine x_start rfl (Nat.le_of_ble_eq_true rfl) (fun X _ _ _ C hE0 => ?_)
  have hE : ∀ r, c = r → xE1 X (some (.int r.1)) r.2 := fun r e => e ▸ hE0
  show V X (0, 0) σ 0 [(0, .ref (x0)), (1, .int (x1))] []
  unfold fX12_weighs_d0 at hf
  refine x_iload_n C dX12_weighs_0 1 rfl 1 rfl rfl ?_
  refine x_aload_n C dX12_weighs_1 2 rfl 0 rfl rfl ?_
  obtain ⟨o2, ho2, hf⟩ := x_bind hf
  obtain ⟨w2, hw2, hf⟩ := x_bind hf
  refine x_callVi C dX12_weighs_2 5 rfl ho2 cl11.1 rfl (cX12_lettersc hw2) kX12_letters kvX12_letters w1860 ⟨rfl, rfl⟩ ⟨Nat.le_of_ble_eq_true rfl, Nat.le_of_ble_eq_true rfl⟩ ⟨Nat.zero_le _, Nat.zero_le _⟩ rfl rfl (Nat.le_of_ble_eq_true rfl) ?_
  refine x_icmp_ne C dX12_weighs_5 13 (by decide) 8 rfl (fun hc => ?_) (fun hc => ?_)
  · have hf := (if_neg hc).symm.trans hf
    refine x_iconst C dX12_weighs_13 14 rfl 1 (by decide) ?_
    refine x_istore_n C dX12_weighs_14 15 rfl rfl rfl [(2, .int (1)), (0, .ref (x0)), (1, .int (x1))] rfl ?_
    obtain ⟨b15, hb15, hf⟩ := x_bind hf
    refine x_lv [1, 2, 0] (lv' := [(0, .ref (x0)), (1, .int (x1)), (2, .int (1))]) rfl ?_
    refine lpX12_weighs_d0_15 C hb15 (fun s15 e15 => ?_) (fun s15 e15 => ?_)
    · subst e15
      try dsimp only at hf
      refine x_iconst C dX12_weighs_37 38 rfl 1 (by decide) ?_
      exact x_zret C rfl (hE _ (Option.some.inj hf).symm) dX12_weighs_38
    · subst e15
      try dsimp only at hf
      refine x_iconst C dX12_weighs_45 46 rfl 0 (by decide) ?_
      exact x_zret C rfl (hE _ (Option.some.inj hf).symm) dX12_weighs_46
  · have hf := (if_pos hc).symm.trans hf
    refine x_aload_n C dX12_weighs_8 9 rfl 0 rfl rfl ?_
    obtain ⟨o9, ho9, hf⟩ := x_bind hf
    obtain ⟨w9, hw9, hf⟩ := x_bind hf
    refine x_callVi C dX12_weighs_9 12 rfl ho9 cl11.1 rfl (cX12_doAllFallc hw9) kX12_doAllFall kvX12_doAllFall w1905 ⟨rfl, rfl⟩ ⟨Nat.le_of_ble_eq_true rfl, Nat.le_of_ble_eq_true rfl⟩ ⟨Nat.zero_le _, Nat.zero_le _⟩ rfl rfl (Nat.le_of_ble_eq_true rfl) ?_
    obtain ⟨z12, hz12, hf⟩ := x_bind hf
    refine x_topi (zok_nar hz12).1 ?_
    exact x_zret C (zok_w hz12) (hE _ (Option.some.inj hf).symm) dX12_weighs_12
abbrev rmX12_weighs_d1 : Room := { frames := 3, cells := 0, slots := 0, locals := 68 }
noncomputable def fLX12_weighs_d1_15 (x0 : Nat) (x1 : Int32) (a : Int32 × St) : Option ((Int32 × St) ⊕ ((St) ⊕ (St))) :=
if ((5 : Int32)) < a.1 then
(some (Sum.inr (Sum.inr a.2)))
else
((gR a.2 x0 11 35).bind fun v21 =>
(sI a.2 v21 x1 a.1).bind fun σ26 =>
(isO σ26 x0 11).bind fun _ =>
(fX12_weighs_d0 σ26 x0 (x1 + 1)).bind fun w31 =>
if w31.1 = 0 then
(xlet (a.1 + 1) fun v39 =>
some (Sum.inl (v39, w31.2)))
else
(some (Sum.inr (Sum.inl w31.2))))
set_option maxHeartbeats 4000000 in
set_option maxRecDepth 100000 in
theorem lpX12_weighs_d1_15 {X : xX} {x0 : Nat} {x1 : Int32}  {a0 : Int32 × St} {b : (St) ⊕ (St)} (C : Ok X cX12_weighs 3 RX12 rmX12_weighs_d1 (some .boolean)) (hb : iterP (fLX12_weighs_d1_15 x0 x1) a0 = some b) (hy0 : ∀ s, b = (Sum.inl s) → V X (0, 0) s 37 [] []) (hy1 : ∀ s, b = (Sum.inr s) → V X (0, 0) s 45 [] []) : V X (0, 0) a0.2 15 [(0, .ref (x0)), (1, .int (x1)), (2, .int (a0.1))] [] := by
  obtain ⟨n, hn⟩ := iterP_some hb
  refine x_loop (P := fun a => V X (0, 0) a.2 15 [(0, .ref (x0)), (1, .int (x1)), (2, .int (a.1))] []) ?_ n a0 hn
  intro a c hf hK hxx
  have hx0 : ∀ s, c = Sum.inr (Sum.inl s) → V X (0, 0) s 37 [] [] := fun s e => hy0 s (hxx _ e).symm
  have hx1 : ∀ s, c = Sum.inr (Sum.inr s) → V X (0, 0) s 45 [] [] := fun s e => hy1 s (hxx _ e).symm
  unfold fLX12_weighs_d1_15 at hf
  refine x_iload_n C dX12_weighs_15 16 rfl 2 rfl rfl ?_
  refine x_iconst C dX12_weighs_16 17 rfl 5 (by decide) ?_
  refine x_icmp_gt C dX12_weighs_17 45 (by decide) 20 rfl (fun hc => ?_) (fun hc => ?_)
  · have hf := (if_pos hc).symm.trans hf
    refine x_lv [] (lv' := []) rfl ?_
    exact hx1 _ (Option.some.inj hf).symm
  · have hf := (if_neg hc).symm.trans hf
    refine x_aload_n C dX12_weighs_20 21 rfl 0 rfl rfl ?_
    obtain ⟨v21, hv21, hf⟩ := x_bind hf
    refine x_getR C dX12_weighs_21 24 rfl hv21 cl11 rfl w1478 ?_
    refine x_iload_n C dX12_weighs_24 25 rfl 1 rfl rfl ?_
    refine x_iload_n C dX12_weighs_25 26 rfl 2 rfl rfl ?_
    obtain ⟨σ26, hσ26, hf⟩ := x_bind hf
    refine x_iastore C dX12_weighs_26 27 rfl hσ26 ?_
    refine x_aload_n C dX12_weighs_27 28 rfl 0 rfl rfl ?_
    refine x_iload_n C dX12_weighs_28 29 rfl 1 rfl rfl ?_
    refine x_iconst C dX12_weighs_29 30 rfl 1 (by decide) ?_
    refine x_iadd C dX12_weighs_30 31 rfl ?_
    obtain ⟨o31, ho31, hf⟩ := x_bind hf
    obtain ⟨w31, hw31, hf⟩ := x_bind hf
    refine x_callVi C dX12_weighs_31 34 rfl ho31 cl11.1 rfl (cX12_weighs_d0c hw31) kX12_weighs kvX12_weighs w1901 ⟨rfl, rfl⟩ ⟨Nat.le_of_ble_eq_true rfl, Nat.le_of_ble_eq_true rfl⟩ ⟨Nat.zero_le _, Nat.zero_le _⟩ rfl rfl (Nat.le_of_ble_eq_true rfl) ?_
    refine x_if_eq C dX12_weighs_34 39 (by decide) 37 rfl (fun hc => ?_) (fun hc => ?_)
    · have hf := (if_pos hc).symm.trans hf
      obtain ⟨v39, ev39, hf⟩ := xlet_some hf
      refine x_iinc C dX12_weighs_39 42 rfl 2 rfl v39 ev39 rfl [(2, .int (v39)), (0, .ref (x0)), (1, .int (x1))] rfl ?_
      refine x_goto C dX12_weighs_42 15 (by decide) ?_
      refine x_lv [1, 2, 0] (lv' := [(0, .ref (x0)), (1, .int (x1)), (2, .int (v39))]) rfl ?_
      exact hK _ (Option.some.inj hf).symm
    · have hf := (if_neg hc).symm.trans hf
      refine x_lv [] (lv' := []) rfl ?_
      exact hx0 _ (Option.some.inj hf).symm
noncomputable def fX12_weighs_d1 (σ : St) (x0 : Nat) (x1 : Int32) : Option ((Int32 × St)) :=
(isO σ x0 11).bind fun _ =>
(fX12_letters σ x0).bind fun w2 =>
if x1 = w2 then
((isO σ x0 11).bind fun _ =>
(fX12_doAllFall σ x0).bind fun w9 =>
(zok w9).bind fun z12 =>
some (z12, σ))
else
((iterP (fLX12_weighs_d1_15 x0 x1) (1, σ)).bind fun b15 =>
(match b15 with
| .inl s15 =>
some (1, s15)
| .inr s15 =>
some (0, s15)))
set_option maxHeartbeats 4000000 in
set_option maxRecDepth 100000 in
theorem cX12_weighs_d1c {l : Launch} {G : xG} {A : Nat → Prop} {σ : St} {x0 : Nat} {x1 : Int32} {c : (Int32 × St)} (hf : fX12_weighs_d1 σ x0 x1 = some c) : Con l yX12_weighs (xws yX12_weighs cX12_weighs 3 (some .boolean)) rmX12_weighs_d1 [.ref (x0), .int (x1)] G A σ (some (.int c.1)) c.2 := by
  refine x_start rfl (Nat.le_of_ble_eq_true rfl) (fun X _ _ _ C hE0 => ?_)
  have hE : ∀ r, c = r → xE1 X (some (.int r.1)) r.2 := fun r e => e ▸ hE0
  show V X (0, 0) σ 0 [(0, .ref (x0)), (1, .int (x1))] []
  unfold fX12_weighs_d1 at hf
  refine x_iload_n C dX12_weighs_0 1 rfl 1 rfl rfl ?_
  refine x_aload_n C dX12_weighs_1 2 rfl 0 rfl rfl ?_
  obtain ⟨o2, ho2, hf⟩ := x_bind hf
  obtain ⟨w2, hw2, hf⟩ := x_bind hf
  refine x_callVi C dX12_weighs_2 5 rfl ho2 cl11.1 rfl (cX12_lettersc hw2) kX12_letters kvX12_letters w1860 ⟨rfl, rfl⟩ ⟨Nat.le_of_ble_eq_true rfl, Nat.le_of_ble_eq_true rfl⟩ ⟨Nat.zero_le _, Nat.zero_le _⟩ rfl rfl (Nat.le_of_ble_eq_true rfl) ?_
  refine x_icmp_ne C dX12_weighs_5 13 (by decide) 8 rfl (fun hc => ?_) (fun hc => ?_)
  · have hf := (if_neg hc).symm.trans hf
    refine x_iconst C dX12_weighs_13 14 rfl 1 (by decide) ?_
    refine x_istore_n C dX12_weighs_14 15 rfl rfl rfl [(2, .int (1)), (0, .ref (x0)), (1, .int (x1))] rfl ?_
    obtain ⟨b15, hb15, hf⟩ := x_bind hf
    refine x_lv [1, 2, 0] (lv' := [(0, .ref (x0)), (1, .int (x1)), (2, .int (1))]) rfl ?_
    refine lpX12_weighs_d1_15 C hb15 (fun s15 e15 => ?_) (fun s15 e15 => ?_)
    · subst e15
      try dsimp only at hf
      refine x_iconst C dX12_weighs_37 38 rfl 1 (by decide) ?_
      exact x_zret C rfl (hE _ (Option.some.inj hf).symm) dX12_weighs_38
    · subst e15
      try dsimp only at hf
      refine x_iconst C dX12_weighs_45 46 rfl 0 (by decide) ?_
      exact x_zret C rfl (hE _ (Option.some.inj hf).symm) dX12_weighs_46
  · have hf := (if_pos hc).symm.trans hf
    refine x_aload_n C dX12_weighs_8 9 rfl 0 rfl rfl ?_
    obtain ⟨o9, ho9, hf⟩ := x_bind hf
    obtain ⟨w9, hw9, hf⟩ := x_bind hf
    refine x_callVi C dX12_weighs_9 12 rfl ho9 cl11.1 rfl (cX12_doAllFallc hw9) kX12_doAllFall kvX12_doAllFall w1905 ⟨rfl, rfl⟩ ⟨Nat.le_of_ble_eq_true rfl, Nat.le_of_ble_eq_true rfl⟩ ⟨Nat.zero_le _, Nat.zero_le _⟩ rfl rfl (Nat.le_of_ble_eq_true rfl) ?_
    obtain ⟨z12, hz12, hf⟩ := x_bind hf
    refine x_topi (zok_nar hz12).1 ?_
    exact x_zret C (zok_w hz12) (hE _ (Option.some.inj hf).symm) dX12_weighs_12
abbrev rmX12_weighs_d2 : Room := { frames := 4, cells := 0, slots := 0, locals := 90 }
noncomputable def fLX12_weighs_d2_15 (x0 : Nat) (x1 : Int32) (a : Int32 × St) : Option ((Int32 × St) ⊕ ((St) ⊕ (St))) :=
if ((5 : Int32)) < a.1 then
(some (Sum.inr (Sum.inr a.2)))
else
((gR a.2 x0 11 35).bind fun v21 =>
(sI a.2 v21 x1 a.1).bind fun σ26 =>
(isO σ26 x0 11).bind fun _ =>
(fX12_weighs_d1 σ26 x0 (x1 + 1)).bind fun w31 =>
if w31.1 = 0 then
(xlet (a.1 + 1) fun v39 =>
some (Sum.inl (v39, w31.2)))
else
(some (Sum.inr (Sum.inl w31.2))))
set_option maxHeartbeats 4000000 in
set_option maxRecDepth 100000 in
theorem lpX12_weighs_d2_15 {X : xX} {x0 : Nat} {x1 : Int32}  {a0 : Int32 × St} {b : (St) ⊕ (St)} (C : Ok X cX12_weighs 3 RX12 rmX12_weighs_d2 (some .boolean)) (hb : iterP (fLX12_weighs_d2_15 x0 x1) a0 = some b) (hy0 : ∀ s, b = (Sum.inl s) → V X (0, 0) s 37 [] []) (hy1 : ∀ s, b = (Sum.inr s) → V X (0, 0) s 45 [] []) : V X (0, 0) a0.2 15 [(0, .ref (x0)), (1, .int (x1)), (2, .int (a0.1))] [] := by
  obtain ⟨n, hn⟩ := iterP_some hb
  refine x_loop (P := fun a => V X (0, 0) a.2 15 [(0, .ref (x0)), (1, .int (x1)), (2, .int (a.1))] []) ?_ n a0 hn
  intro a c hf hK hxx
  have hx0 : ∀ s, c = Sum.inr (Sum.inl s) → V X (0, 0) s 37 [] [] := fun s e => hy0 s (hxx _ e).symm
  have hx1 : ∀ s, c = Sum.inr (Sum.inr s) → V X (0, 0) s 45 [] [] := fun s e => hy1 s (hxx _ e).symm
  unfold fLX12_weighs_d2_15 at hf
  refine x_iload_n C dX12_weighs_15 16 rfl 2 rfl rfl ?_
  refine x_iconst C dX12_weighs_16 17 rfl 5 (by decide) ?_
  refine x_icmp_gt C dX12_weighs_17 45 (by decide) 20 rfl (fun hc => ?_) (fun hc => ?_)
  · have hf := (if_pos hc).symm.trans hf
    refine x_lv [] (lv' := []) rfl ?_
    exact hx1 _ (Option.some.inj hf).symm
  · have hf := (if_neg hc).symm.trans hf
    refine x_aload_n C dX12_weighs_20 21 rfl 0 rfl rfl ?_
    obtain ⟨v21, hv21, hf⟩ := x_bind hf
    refine x_getR C dX12_weighs_21 24 rfl hv21 cl11 rfl w1478 ?_
    refine x_iload_n C dX12_weighs_24 25 rfl 1 rfl rfl ?_
    refine x_iload_n C dX12_weighs_25 26 rfl 2 rfl rfl ?_
    obtain ⟨σ26, hσ26, hf⟩ := x_bind hf
    refine x_iastore C dX12_weighs_26 27 rfl hσ26 ?_
    refine x_aload_n C dX12_weighs_27 28 rfl 0 rfl rfl ?_
    refine x_iload_n C dX12_weighs_28 29 rfl 1 rfl rfl ?_
    refine x_iconst C dX12_weighs_29 30 rfl 1 (by decide) ?_
    refine x_iadd C dX12_weighs_30 31 rfl ?_
    obtain ⟨o31, ho31, hf⟩ := x_bind hf
    obtain ⟨w31, hw31, hf⟩ := x_bind hf
    refine x_callVi C dX12_weighs_31 34 rfl ho31 cl11.1 rfl (cX12_weighs_d1c hw31) kX12_weighs kvX12_weighs w1901 ⟨rfl, rfl⟩ ⟨Nat.le_of_ble_eq_true rfl, Nat.le_of_ble_eq_true rfl⟩ ⟨Nat.zero_le _, Nat.zero_le _⟩ rfl rfl (Nat.le_of_ble_eq_true rfl) ?_
    refine x_if_eq C dX12_weighs_34 39 (by decide) 37 rfl (fun hc => ?_) (fun hc => ?_)
    · have hf := (if_pos hc).symm.trans hf
      obtain ⟨v39, ev39, hf⟩ := xlet_some hf
      refine x_iinc C dX12_weighs_39 42 rfl 2 rfl v39 ev39 rfl [(2, .int (v39)), (0, .ref (x0)), (1, .int (x1))] rfl ?_
      refine x_goto C dX12_weighs_42 15 (by decide) ?_
      refine x_lv [1, 2, 0] (lv' := [(0, .ref (x0)), (1, .int (x1)), (2, .int (v39))]) rfl ?_
      exact hK _ (Option.some.inj hf).symm
    · have hf := (if_neg hc).symm.trans hf
      refine x_lv [] (lv' := []) rfl ?_
      exact hx0 _ (Option.some.inj hf).symm
noncomputable def fX12_weighs_d2 (σ : St) (x0 : Nat) (x1 : Int32) : Option ((Int32 × St)) :=
(isO σ x0 11).bind fun _ =>
(fX12_letters σ x0).bind fun w2 =>
if x1 = w2 then
((isO σ x0 11).bind fun _ =>
(fX12_doAllFall σ x0).bind fun w9 =>
(zok w9).bind fun z12 =>
some (z12, σ))
else
((iterP (fLX12_weighs_d2_15 x0 x1) (1, σ)).bind fun b15 =>
(match b15 with
| .inl s15 =>
some (1, s15)
| .inr s15 =>
some (0, s15)))
set_option maxHeartbeats 4000000 in
set_option maxRecDepth 100000 in
theorem cX12_weighs_d2c {l : Launch} {G : xG} {A : Nat → Prop} {σ : St} {x0 : Nat} {x1 : Int32} {c : (Int32 × St)} (hf : fX12_weighs_d2 σ x0 x1 = some c) : Con l yX12_weighs (xws yX12_weighs cX12_weighs 3 (some .boolean)) rmX12_weighs_d2 [.ref (x0), .int (x1)] G A σ (some (.int c.1)) c.2 := by
  refine x_start rfl (Nat.le_of_ble_eq_true rfl) (fun X _ _ _ C hE0 => ?_)
  have hE : ∀ r, c = r → xE1 X (some (.int r.1)) r.2 := fun r e => e ▸ hE0
  show V X (0, 0) σ 0 [(0, .ref (x0)), (1, .int (x1))] []
  unfold fX12_weighs_d2 at hf
  refine x_iload_n C dX12_weighs_0 1 rfl 1 rfl rfl ?_
  refine x_aload_n C dX12_weighs_1 2 rfl 0 rfl rfl ?_
  obtain ⟨o2, ho2, hf⟩ := x_bind hf
  obtain ⟨w2, hw2, hf⟩ := x_bind hf
  refine x_callVi C dX12_weighs_2 5 rfl ho2 cl11.1 rfl (cX12_lettersc hw2) kX12_letters kvX12_letters w1860 ⟨rfl, rfl⟩ ⟨Nat.le_of_ble_eq_true rfl, Nat.le_of_ble_eq_true rfl⟩ ⟨Nat.zero_le _, Nat.zero_le _⟩ rfl rfl (Nat.le_of_ble_eq_true rfl) ?_
  refine x_icmp_ne C dX12_weighs_5 13 (by decide) 8 rfl (fun hc => ?_) (fun hc => ?_)
  · have hf := (if_neg hc).symm.trans hf
    refine x_iconst C dX12_weighs_13 14 rfl 1 (by decide) ?_
    refine x_istore_n C dX12_weighs_14 15 rfl rfl rfl [(2, .int (1)), (0, .ref (x0)), (1, .int (x1))] rfl ?_
    obtain ⟨b15, hb15, hf⟩ := x_bind hf
    refine x_lv [1, 2, 0] (lv' := [(0, .ref (x0)), (1, .int (x1)), (2, .int (1))]) rfl ?_
    refine lpX12_weighs_d2_15 C hb15 (fun s15 e15 => ?_) (fun s15 e15 => ?_)
    · subst e15
      try dsimp only at hf
      refine x_iconst C dX12_weighs_37 38 rfl 1 (by decide) ?_
      exact x_zret C rfl (hE _ (Option.some.inj hf).symm) dX12_weighs_38
    · subst e15
      try dsimp only at hf
      refine x_iconst C dX12_weighs_45 46 rfl 0 (by decide) ?_
      exact x_zret C rfl (hE _ (Option.some.inj hf).symm) dX12_weighs_46
  · have hf := (if_pos hc).symm.trans hf
    refine x_aload_n C dX12_weighs_8 9 rfl 0 rfl rfl ?_
    obtain ⟨o9, ho9, hf⟩ := x_bind hf
    obtain ⟨w9, hw9, hf⟩ := x_bind hf
    refine x_callVi C dX12_weighs_9 12 rfl ho9 cl11.1 rfl (cX12_doAllFallc hw9) kX12_doAllFall kvX12_doAllFall w1905 ⟨rfl, rfl⟩ ⟨Nat.le_of_ble_eq_true rfl, Nat.le_of_ble_eq_true rfl⟩ ⟨Nat.zero_le _, Nat.zero_le _⟩ rfl rfl (Nat.le_of_ble_eq_true rfl) ?_
    obtain ⟨z12, hz12, hf⟩ := x_bind hf
    refine x_topi (zok_nar hz12).1 ?_
    exact x_zret C (zok_w hz12) (hE _ (Option.some.inj hf).symm) dX12_weighs_12
abbrev rmX12_weighs_d3 : Room := { frames := 5, cells := 0, slots := 0, locals := 112 }
noncomputable def fLX12_weighs_d3_15 (x0 : Nat) (x1 : Int32) (a : Int32 × St) : Option ((Int32 × St) ⊕ ((St) ⊕ (St))) :=
if ((5 : Int32)) < a.1 then
(some (Sum.inr (Sum.inr a.2)))
else
((gR a.2 x0 11 35).bind fun v21 =>
(sI a.2 v21 x1 a.1).bind fun σ26 =>
(isO σ26 x0 11).bind fun _ =>
(fX12_weighs_d2 σ26 x0 (x1 + 1)).bind fun w31 =>
if w31.1 = 0 then
(xlet (a.1 + 1) fun v39 =>
some (Sum.inl (v39, w31.2)))
else
(some (Sum.inr (Sum.inl w31.2))))
set_option maxHeartbeats 4000000 in
set_option maxRecDepth 100000 in
theorem lpX12_weighs_d3_15 {X : xX} {x0 : Nat} {x1 : Int32}  {a0 : Int32 × St} {b : (St) ⊕ (St)} (C : Ok X cX12_weighs 3 RX12 rmX12_weighs_d3 (some .boolean)) (hb : iterP (fLX12_weighs_d3_15 x0 x1) a0 = some b) (hy0 : ∀ s, b = (Sum.inl s) → V X (0, 0) s 37 [] []) (hy1 : ∀ s, b = (Sum.inr s) → V X (0, 0) s 45 [] []) : V X (0, 0) a0.2 15 [(0, .ref (x0)), (1, .int (x1)), (2, .int (a0.1))] [] := by
  obtain ⟨n, hn⟩ := iterP_some hb
  refine x_loop (P := fun a => V X (0, 0) a.2 15 [(0, .ref (x0)), (1, .int (x1)), (2, .int (a.1))] []) ?_ n a0 hn
  intro a c hf hK hxx
  have hx0 : ∀ s, c = Sum.inr (Sum.inl s) → V X (0, 0) s 37 [] [] := fun s e => hy0 s (hxx _ e).symm
  have hx1 : ∀ s, c = Sum.inr (Sum.inr s) → V X (0, 0) s 45 [] [] := fun s e => hy1 s (hxx _ e).symm
  unfold fLX12_weighs_d3_15 at hf
  refine x_iload_n C dX12_weighs_15 16 rfl 2 rfl rfl ?_
  refine x_iconst C dX12_weighs_16 17 rfl 5 (by decide) ?_
  refine x_icmp_gt C dX12_weighs_17 45 (by decide) 20 rfl (fun hc => ?_) (fun hc => ?_)
  · have hf := (if_pos hc).symm.trans hf
    refine x_lv [] (lv' := []) rfl ?_
    exact hx1 _ (Option.some.inj hf).symm
  · have hf := (if_neg hc).symm.trans hf
    refine x_aload_n C dX12_weighs_20 21 rfl 0 rfl rfl ?_
    obtain ⟨v21, hv21, hf⟩ := x_bind hf
    refine x_getR C dX12_weighs_21 24 rfl hv21 cl11 rfl w1478 ?_
    refine x_iload_n C dX12_weighs_24 25 rfl 1 rfl rfl ?_
    refine x_iload_n C dX12_weighs_25 26 rfl 2 rfl rfl ?_
    obtain ⟨σ26, hσ26, hf⟩ := x_bind hf
    refine x_iastore C dX12_weighs_26 27 rfl hσ26 ?_
    refine x_aload_n C dX12_weighs_27 28 rfl 0 rfl rfl ?_
    refine x_iload_n C dX12_weighs_28 29 rfl 1 rfl rfl ?_
    refine x_iconst C dX12_weighs_29 30 rfl 1 (by decide) ?_
    refine x_iadd C dX12_weighs_30 31 rfl ?_
    obtain ⟨o31, ho31, hf⟩ := x_bind hf
    obtain ⟨w31, hw31, hf⟩ := x_bind hf
    refine x_callVi C dX12_weighs_31 34 rfl ho31 cl11.1 rfl (cX12_weighs_d2c hw31) kX12_weighs kvX12_weighs w1901 ⟨rfl, rfl⟩ ⟨Nat.le_of_ble_eq_true rfl, Nat.le_of_ble_eq_true rfl⟩ ⟨Nat.zero_le _, Nat.zero_le _⟩ rfl rfl (Nat.le_of_ble_eq_true rfl) ?_
    refine x_if_eq C dX12_weighs_34 39 (by decide) 37 rfl (fun hc => ?_) (fun hc => ?_)
    · have hf := (if_pos hc).symm.trans hf
      obtain ⟨v39, ev39, hf⟩ := xlet_some hf
      refine x_iinc C dX12_weighs_39 42 rfl 2 rfl v39 ev39 rfl [(2, .int (v39)), (0, .ref (x0)), (1, .int (x1))] rfl ?_
      refine x_goto C dX12_weighs_42 15 (by decide) ?_
      refine x_lv [1, 2, 0] (lv' := [(0, .ref (x0)), (1, .int (x1)), (2, .int (v39))]) rfl ?_
      exact hK _ (Option.some.inj hf).symm
    · have hf := (if_neg hc).symm.trans hf
      refine x_lv [] (lv' := []) rfl ?_
      exact hx0 _ (Option.some.inj hf).symm
noncomputable def fX12_weighs_d3 (σ : St) (x0 : Nat) (x1 : Int32) : Option ((Int32 × St)) :=
(isO σ x0 11).bind fun _ =>
(fX12_letters σ x0).bind fun w2 =>
if x1 = w2 then
((isO σ x0 11).bind fun _ =>
(fX12_doAllFall σ x0).bind fun w9 =>
(zok w9).bind fun z12 =>
some (z12, σ))
else
((iterP (fLX12_weighs_d3_15 x0 x1) (1, σ)).bind fun b15 =>
(match b15 with
| .inl s15 =>
some (1, s15)
| .inr s15 =>
some (0, s15)))
set_option maxHeartbeats 4000000 in
set_option maxRecDepth 100000 in
theorem cX12_weighs_d3c {l : Launch} {G : xG} {A : Nat → Prop} {σ : St} {x0 : Nat} {x1 : Int32} {c : (Int32 × St)} (hf : fX12_weighs_d3 σ x0 x1 = some c) : Con l yX12_weighs (xws yX12_weighs cX12_weighs 3 (some .boolean)) rmX12_weighs_d3 [.ref (x0), .int (x1)] G A σ (some (.int c.1)) c.2 := by
  refine x_start rfl (Nat.le_of_ble_eq_true rfl) (fun X _ _ _ C hE0 => ?_)
  have hE : ∀ r, c = r → xE1 X (some (.int r.1)) r.2 := fun r e => e ▸ hE0
  show V X (0, 0) σ 0 [(0, .ref (x0)), (1, .int (x1))] []
  unfold fX12_weighs_d3 at hf
  refine x_iload_n C dX12_weighs_0 1 rfl 1 rfl rfl ?_
  refine x_aload_n C dX12_weighs_1 2 rfl 0 rfl rfl ?_
  obtain ⟨o2, ho2, hf⟩ := x_bind hf
  obtain ⟨w2, hw2, hf⟩ := x_bind hf
  refine x_callVi C dX12_weighs_2 5 rfl ho2 cl11.1 rfl (cX12_lettersc hw2) kX12_letters kvX12_letters w1860 ⟨rfl, rfl⟩ ⟨Nat.le_of_ble_eq_true rfl, Nat.le_of_ble_eq_true rfl⟩ ⟨Nat.zero_le _, Nat.zero_le _⟩ rfl rfl (Nat.le_of_ble_eq_true rfl) ?_
  refine x_icmp_ne C dX12_weighs_5 13 (by decide) 8 rfl (fun hc => ?_) (fun hc => ?_)
  · have hf := (if_neg hc).symm.trans hf
    refine x_iconst C dX12_weighs_13 14 rfl 1 (by decide) ?_
    refine x_istore_n C dX12_weighs_14 15 rfl rfl rfl [(2, .int (1)), (0, .ref (x0)), (1, .int (x1))] rfl ?_
    obtain ⟨b15, hb15, hf⟩ := x_bind hf
    refine x_lv [1, 2, 0] (lv' := [(0, .ref (x0)), (1, .int (x1)), (2, .int (1))]) rfl ?_
    refine lpX12_weighs_d3_15 C hb15 (fun s15 e15 => ?_) (fun s15 e15 => ?_)
    · subst e15
      try dsimp only at hf
      refine x_iconst C dX12_weighs_37 38 rfl 1 (by decide) ?_
      exact x_zret C rfl (hE _ (Option.some.inj hf).symm) dX12_weighs_38
    · subst e15
      try dsimp only at hf
      refine x_iconst C dX12_weighs_45 46 rfl 0 (by decide) ?_
      exact x_zret C rfl (hE _ (Option.some.inj hf).symm) dX12_weighs_46
  · have hf := (if_pos hc).symm.trans hf
    refine x_aload_n C dX12_weighs_8 9 rfl 0 rfl rfl ?_
    obtain ⟨o9, ho9, hf⟩ := x_bind hf
    obtain ⟨w9, hw9, hf⟩ := x_bind hf
    refine x_callVi C dX12_weighs_9 12 rfl ho9 cl11.1 rfl (cX12_doAllFallc hw9) kX12_doAllFall kvX12_doAllFall w1905 ⟨rfl, rfl⟩ ⟨Nat.le_of_ble_eq_true rfl, Nat.le_of_ble_eq_true rfl⟩ ⟨Nat.zero_le _, Nat.zero_le _⟩ rfl rfl (Nat.le_of_ble_eq_true rfl) ?_
    obtain ⟨z12, hz12, hf⟩ := x_bind hf
    refine x_topi (zok_nar hz12).1 ?_
    exact x_zret C (zok_w hz12) (hE _ (Option.some.inj hf).symm) dX12_weighs_12
abbrev rmX12_weighs_d4 : Room := { frames := 6, cells := 0, slots := 0, locals := 134 }
noncomputable def fLX12_weighs_d4_15 (x0 : Nat) (x1 : Int32) (a : Int32 × St) : Option ((Int32 × St) ⊕ ((St) ⊕ (St))) :=
if ((5 : Int32)) < a.1 then
(some (Sum.inr (Sum.inr a.2)))
else
((gR a.2 x0 11 35).bind fun v21 =>
(sI a.2 v21 x1 a.1).bind fun σ26 =>
(isO σ26 x0 11).bind fun _ =>
(fX12_weighs_d3 σ26 x0 (x1 + 1)).bind fun w31 =>
if w31.1 = 0 then
(xlet (a.1 + 1) fun v39 =>
some (Sum.inl (v39, w31.2)))
else
(some (Sum.inr (Sum.inl w31.2))))
set_option maxHeartbeats 4000000 in
set_option maxRecDepth 100000 in
theorem lpX12_weighs_d4_15 {X : xX} {x0 : Nat} {x1 : Int32}  {a0 : Int32 × St} {b : (St) ⊕ (St)} (C : Ok X cX12_weighs 3 RX12 rmX12_weighs_d4 (some .boolean)) (hb : iterP (fLX12_weighs_d4_15 x0 x1) a0 = some b) (hy0 : ∀ s, b = (Sum.inl s) → V X (0, 0) s 37 [] []) (hy1 : ∀ s, b = (Sum.inr s) → V X (0, 0) s 45 [] []) : V X (0, 0) a0.2 15 [(0, .ref (x0)), (1, .int (x1)), (2, .int (a0.1))] [] := by
  obtain ⟨n, hn⟩ := iterP_some hb
  refine x_loop (P := fun a => V X (0, 0) a.2 15 [(0, .ref (x0)), (1, .int (x1)), (2, .int (a.1))] []) ?_ n a0 hn
  intro a c hf hK hxx
  have hx0 : ∀ s, c = Sum.inr (Sum.inl s) → V X (0, 0) s 37 [] [] := fun s e => hy0 s (hxx _ e).symm
  have hx1 : ∀ s, c = Sum.inr (Sum.inr s) → V X (0, 0) s 45 [] [] := fun s e => hy1 s (hxx _ e).symm
  unfold fLX12_weighs_d4_15 at hf
  refine x_iload_n C dX12_weighs_15 16 rfl 2 rfl rfl ?_
  refine x_iconst C dX12_weighs_16 17 rfl 5 (by decide) ?_
  refine x_icmp_gt C dX12_weighs_17 45 (by decide) 20 rfl (fun hc => ?_) (fun hc => ?_)
  · have hf := (if_pos hc).symm.trans hf
    refine x_lv [] (lv' := []) rfl ?_
    exact hx1 _ (Option.some.inj hf).symm
  · have hf := (if_neg hc).symm.trans hf
    refine x_aload_n C dX12_weighs_20 21 rfl 0 rfl rfl ?_
    obtain ⟨v21, hv21, hf⟩ := x_bind hf
    refine x_getR C dX12_weighs_21 24 rfl hv21 cl11 rfl w1478 ?_
    refine x_iload_n C dX12_weighs_24 25 rfl 1 rfl rfl ?_
    refine x_iload_n C dX12_weighs_25 26 rfl 2 rfl rfl ?_
    obtain ⟨σ26, hσ26, hf⟩ := x_bind hf
    refine x_iastore C dX12_weighs_26 27 rfl hσ26 ?_
    refine x_aload_n C dX12_weighs_27 28 rfl 0 rfl rfl ?_
    refine x_iload_n C dX12_weighs_28 29 rfl 1 rfl rfl ?_
    refine x_iconst C dX12_weighs_29 30 rfl 1 (by decide) ?_
    refine x_iadd C dX12_weighs_30 31 rfl ?_
    obtain ⟨o31, ho31, hf⟩ := x_bind hf
    obtain ⟨w31, hw31, hf⟩ := x_bind hf
    refine x_callVi C dX12_weighs_31 34 rfl ho31 cl11.1 rfl (cX12_weighs_d3c hw31) kX12_weighs kvX12_weighs w1901 ⟨rfl, rfl⟩ ⟨Nat.le_of_ble_eq_true rfl, Nat.le_of_ble_eq_true rfl⟩ ⟨Nat.zero_le _, Nat.zero_le _⟩ rfl rfl (Nat.le_of_ble_eq_true rfl) ?_
    refine x_if_eq C dX12_weighs_34 39 (by decide) 37 rfl (fun hc => ?_) (fun hc => ?_)
    · have hf := (if_pos hc).symm.trans hf
      obtain ⟨v39, ev39, hf⟩ := xlet_some hf
      refine x_iinc C dX12_weighs_39 42 rfl 2 rfl v39 ev39 rfl [(2, .int (v39)), (0, .ref (x0)), (1, .int (x1))] rfl ?_
      refine x_goto C dX12_weighs_42 15 (by decide) ?_
      refine x_lv [1, 2, 0] (lv' := [(0, .ref (x0)), (1, .int (x1)), (2, .int (v39))]) rfl ?_
      exact hK _ (Option.some.inj hf).symm
    · have hf := (if_neg hc).symm.trans hf
      refine x_lv [] (lv' := []) rfl ?_
      exact hx0 _ (Option.some.inj hf).symm
noncomputable def fX12_weighs_d4 (σ : St) (x0 : Nat) (x1 : Int32) : Option ((Int32 × St)) :=
(isO σ x0 11).bind fun _ =>
(fX12_letters σ x0).bind fun w2 =>
if x1 = w2 then
((isO σ x0 11).bind fun _ =>
(fX12_doAllFall σ x0).bind fun w9 =>
(zok w9).bind fun z12 =>
some (z12, σ))
else
((iterP (fLX12_weighs_d4_15 x0 x1) (1, σ)).bind fun b15 =>
(match b15 with
| .inl s15 =>
some (1, s15)
| .inr s15 =>
some (0, s15)))
set_option maxHeartbeats 4000000 in
set_option maxRecDepth 100000 in
theorem cX12_weighs_d4c {l : Launch} {G : xG} {A : Nat → Prop} {σ : St} {x0 : Nat} {x1 : Int32} {c : (Int32 × St)} (hf : fX12_weighs_d4 σ x0 x1 = some c) : Con l yX12_weighs (xws yX12_weighs cX12_weighs 3 (some .boolean)) rmX12_weighs_d4 [.ref (x0), .int (x1)] G A σ (some (.int c.1)) c.2 := by
  refine x_start rfl (Nat.le_of_ble_eq_true rfl) (fun X _ _ _ C hE0 => ?_)
  have hE : ∀ r, c = r → xE1 X (some (.int r.1)) r.2 := fun r e => e ▸ hE0
  show V X (0, 0) σ 0 [(0, .ref (x0)), (1, .int (x1))] []
  unfold fX12_weighs_d4 at hf
  refine x_iload_n C dX12_weighs_0 1 rfl 1 rfl rfl ?_
  refine x_aload_n C dX12_weighs_1 2 rfl 0 rfl rfl ?_
  obtain ⟨o2, ho2, hf⟩ := x_bind hf
  obtain ⟨w2, hw2, hf⟩ := x_bind hf
  refine x_callVi C dX12_weighs_2 5 rfl ho2 cl11.1 rfl (cX12_lettersc hw2) kX12_letters kvX12_letters w1860 ⟨rfl, rfl⟩ ⟨Nat.le_of_ble_eq_true rfl, Nat.le_of_ble_eq_true rfl⟩ ⟨Nat.zero_le _, Nat.zero_le _⟩ rfl rfl (Nat.le_of_ble_eq_true rfl) ?_
  refine x_icmp_ne C dX12_weighs_5 13 (by decide) 8 rfl (fun hc => ?_) (fun hc => ?_)
  · have hf := (if_neg hc).symm.trans hf
    refine x_iconst C dX12_weighs_13 14 rfl 1 (by decide) ?_
    refine x_istore_n C dX12_weighs_14 15 rfl rfl rfl [(2, .int (1)), (0, .ref (x0)), (1, .int (x1))] rfl ?_
    obtain ⟨b15, hb15, hf⟩ := x_bind hf
    refine x_lv [1, 2, 0] (lv' := [(0, .ref (x0)), (1, .int (x1)), (2, .int (1))]) rfl ?_
    refine lpX12_weighs_d4_15 C hb15 (fun s15 e15 => ?_) (fun s15 e15 => ?_)
    · subst e15
      try dsimp only at hf
      refine x_iconst C dX12_weighs_37 38 rfl 1 (by decide) ?_
      exact x_zret C rfl (hE _ (Option.some.inj hf).symm) dX12_weighs_38
    · subst e15
      try dsimp only at hf
      refine x_iconst C dX12_weighs_45 46 rfl 0 (by decide) ?_
      exact x_zret C rfl (hE _ (Option.some.inj hf).symm) dX12_weighs_46
  · have hf := (if_pos hc).symm.trans hf
    refine x_aload_n C dX12_weighs_8 9 rfl 0 rfl rfl ?_
    obtain ⟨o9, ho9, hf⟩ := x_bind hf
    obtain ⟨w9, hw9, hf⟩ := x_bind hf
    refine x_callVi C dX12_weighs_9 12 rfl ho9 cl11.1 rfl (cX12_doAllFallc hw9) kX12_doAllFall kvX12_doAllFall w1905 ⟨rfl, rfl⟩ ⟨Nat.le_of_ble_eq_true rfl, Nat.le_of_ble_eq_true rfl⟩ ⟨Nat.zero_le _, Nat.zero_le _⟩ rfl rfl (Nat.le_of_ble_eq_true rfl) ?_
    obtain ⟨z12, hz12, hf⟩ := x_bind hf
    refine x_topi (zok_nar hz12).1 ?_
    exact x_zret C (zok_w hz12) (hE _ (Option.some.inj hf).symm) dX12_weighs_12
abbrev rmX12_weighs_d5 : Room := { frames := 7, cells := 0, slots := 0, locals := 156 }
noncomputable def fLX12_weighs_d5_15 (x0 : Nat) (x1 : Int32) (a : Int32 × St) : Option ((Int32 × St) ⊕ ((St) ⊕ (St))) :=
if ((5 : Int32)) < a.1 then
(some (Sum.inr (Sum.inr a.2)))
else
((gR a.2 x0 11 35).bind fun v21 =>
(sI a.2 v21 x1 a.1).bind fun σ26 =>
(isO σ26 x0 11).bind fun _ =>
(fX12_weighs_d4 σ26 x0 (x1 + 1)).bind fun w31 =>
if w31.1 = 0 then
(xlet (a.1 + 1) fun v39 =>
some (Sum.inl (v39, w31.2)))
else
(some (Sum.inr (Sum.inl w31.2))))
set_option maxHeartbeats 4000000 in
set_option maxRecDepth 100000 in
theorem lpX12_weighs_d5_15 {X : xX} {x0 : Nat} {x1 : Int32}  {a0 : Int32 × St} {b : (St) ⊕ (St)} (C : Ok X cX12_weighs 3 RX12 rmX12_weighs_d5 (some .boolean)) (hb : iterP (fLX12_weighs_d5_15 x0 x1) a0 = some b) (hy0 : ∀ s, b = (Sum.inl s) → V X (0, 0) s 37 [] []) (hy1 : ∀ s, b = (Sum.inr s) → V X (0, 0) s 45 [] []) : V X (0, 0) a0.2 15 [(0, .ref (x0)), (1, .int (x1)), (2, .int (a0.1))] [] := by
  obtain ⟨n, hn⟩ := iterP_some hb
  refine x_loop (P := fun a => V X (0, 0) a.2 15 [(0, .ref (x0)), (1, .int (x1)), (2, .int (a.1))] []) ?_ n a0 hn
  intro a c hf hK hxx
  have hx0 : ∀ s, c = Sum.inr (Sum.inl s) → V X (0, 0) s 37 [] [] := fun s e => hy0 s (hxx _ e).symm
  have hx1 : ∀ s, c = Sum.inr (Sum.inr s) → V X (0, 0) s 45 [] [] := fun s e => hy1 s (hxx _ e).symm
  unfold fLX12_weighs_d5_15 at hf
  refine x_iload_n C dX12_weighs_15 16 rfl 2 rfl rfl ?_
  refine x_iconst C dX12_weighs_16 17 rfl 5 (by decide) ?_
  refine x_icmp_gt C dX12_weighs_17 45 (by decide) 20 rfl (fun hc => ?_) (fun hc => ?_)
  · have hf := (if_pos hc).symm.trans hf
    refine x_lv [] (lv' := []) rfl ?_
    exact hx1 _ (Option.some.inj hf).symm
  · have hf := (if_neg hc).symm.trans hf
    refine x_aload_n C dX12_weighs_20 21 rfl 0 rfl rfl ?_
    obtain ⟨v21, hv21, hf⟩ := x_bind hf
    refine x_getR C dX12_weighs_21 24 rfl hv21 cl11 rfl w1478 ?_
    refine x_iload_n C dX12_weighs_24 25 rfl 1 rfl rfl ?_
    refine x_iload_n C dX12_weighs_25 26 rfl 2 rfl rfl ?_
    obtain ⟨σ26, hσ26, hf⟩ := x_bind hf
    refine x_iastore C dX12_weighs_26 27 rfl hσ26 ?_
    refine x_aload_n C dX12_weighs_27 28 rfl 0 rfl rfl ?_
    refine x_iload_n C dX12_weighs_28 29 rfl 1 rfl rfl ?_
    refine x_iconst C dX12_weighs_29 30 rfl 1 (by decide) ?_
    refine x_iadd C dX12_weighs_30 31 rfl ?_
    obtain ⟨o31, ho31, hf⟩ := x_bind hf
    obtain ⟨w31, hw31, hf⟩ := x_bind hf
    refine x_callVi C dX12_weighs_31 34 rfl ho31 cl11.1 rfl (cX12_weighs_d4c hw31) kX12_weighs kvX12_weighs w1901 ⟨rfl, rfl⟩ ⟨Nat.le_of_ble_eq_true rfl, Nat.le_of_ble_eq_true rfl⟩ ⟨Nat.zero_le _, Nat.zero_le _⟩ rfl rfl (Nat.le_of_ble_eq_true rfl) ?_
    refine x_if_eq C dX12_weighs_34 39 (by decide) 37 rfl (fun hc => ?_) (fun hc => ?_)
    · have hf := (if_pos hc).symm.trans hf
      obtain ⟨v39, ev39, hf⟩ := xlet_some hf
      refine x_iinc C dX12_weighs_39 42 rfl 2 rfl v39 ev39 rfl [(2, .int (v39)), (0, .ref (x0)), (1, .int (x1))] rfl ?_
      refine x_goto C dX12_weighs_42 15 (by decide) ?_
      refine x_lv [1, 2, 0] (lv' := [(0, .ref (x0)), (1, .int (x1)), (2, .int (v39))]) rfl ?_
      exact hK _ (Option.some.inj hf).symm
    · have hf := (if_neg hc).symm.trans hf
      refine x_lv [] (lv' := []) rfl ?_
      exact hx0 _ (Option.some.inj hf).symm
noncomputable def fX12_weighs_d5 (σ : St) (x0 : Nat) (x1 : Int32) : Option ((Int32 × St)) :=
(isO σ x0 11).bind fun _ =>
(fX12_letters σ x0).bind fun w2 =>
if x1 = w2 then
((isO σ x0 11).bind fun _ =>
(fX12_doAllFall σ x0).bind fun w9 =>
(zok w9).bind fun z12 =>
some (z12, σ))
else
((iterP (fLX12_weighs_d5_15 x0 x1) (1, σ)).bind fun b15 =>
(match b15 with
| .inl s15 =>
some (1, s15)
| .inr s15 =>
some (0, s15)))
set_option maxHeartbeats 4000000 in
set_option maxRecDepth 100000 in
theorem cX12_weighs_d5c {l : Launch} {G : xG} {A : Nat → Prop} {σ : St} {x0 : Nat} {x1 : Int32} {c : (Int32 × St)} (hf : fX12_weighs_d5 σ x0 x1 = some c) : Con l yX12_weighs (xws yX12_weighs cX12_weighs 3 (some .boolean)) rmX12_weighs_d5 [.ref (x0), .int (x1)] G A σ (some (.int c.1)) c.2 := by
  refine x_start rfl (Nat.le_of_ble_eq_true rfl) (fun X _ _ _ C hE0 => ?_)
  have hE : ∀ r, c = r → xE1 X (some (.int r.1)) r.2 := fun r e => e ▸ hE0
  show V X (0, 0) σ 0 [(0, .ref (x0)), (1, .int (x1))] []
  unfold fX12_weighs_d5 at hf
  refine x_iload_n C dX12_weighs_0 1 rfl 1 rfl rfl ?_
  refine x_aload_n C dX12_weighs_1 2 rfl 0 rfl rfl ?_
  obtain ⟨o2, ho2, hf⟩ := x_bind hf
  obtain ⟨w2, hw2, hf⟩ := x_bind hf
  refine x_callVi C dX12_weighs_2 5 rfl ho2 cl11.1 rfl (cX12_lettersc hw2) kX12_letters kvX12_letters w1860 ⟨rfl, rfl⟩ ⟨Nat.le_of_ble_eq_true rfl, Nat.le_of_ble_eq_true rfl⟩ ⟨Nat.zero_le _, Nat.zero_le _⟩ rfl rfl (Nat.le_of_ble_eq_true rfl) ?_
  refine x_icmp_ne C dX12_weighs_5 13 (by decide) 8 rfl (fun hc => ?_) (fun hc => ?_)
  · have hf := (if_neg hc).symm.trans hf
    refine x_iconst C dX12_weighs_13 14 rfl 1 (by decide) ?_
    refine x_istore_n C dX12_weighs_14 15 rfl rfl rfl [(2, .int (1)), (0, .ref (x0)), (1, .int (x1))] rfl ?_
    obtain ⟨b15, hb15, hf⟩ := x_bind hf
    refine x_lv [1, 2, 0] (lv' := [(0, .ref (x0)), (1, .int (x1)), (2, .int (1))]) rfl ?_
    refine lpX12_weighs_d5_15 C hb15 (fun s15 e15 => ?_) (fun s15 e15 => ?_)
    · subst e15
      try dsimp only at hf
      refine x_iconst C dX12_weighs_37 38 rfl 1 (by decide) ?_
      exact x_zret C rfl (hE _ (Option.some.inj hf).symm) dX12_weighs_38
    · subst e15
      try dsimp only at hf
      refine x_iconst C dX12_weighs_45 46 rfl 0 (by decide) ?_
      exact x_zret C rfl (hE _ (Option.some.inj hf).symm) dX12_weighs_46
  · have hf := (if_pos hc).symm.trans hf
    refine x_aload_n C dX12_weighs_8 9 rfl 0 rfl rfl ?_
    obtain ⟨o9, ho9, hf⟩ := x_bind hf
    obtain ⟨w9, hw9, hf⟩ := x_bind hf
    refine x_callVi C dX12_weighs_9 12 rfl ho9 cl11.1 rfl (cX12_doAllFallc hw9) kX12_doAllFall kvX12_doAllFall w1905 ⟨rfl, rfl⟩ ⟨Nat.le_of_ble_eq_true rfl, Nat.le_of_ble_eq_true rfl⟩ ⟨Nat.zero_le _, Nat.zero_le _⟩ rfl rfl (Nat.le_of_ble_eq_true rfl) ?_
    obtain ⟨z12, hz12, hf⟩ := x_bind hf
    refine x_topi (zok_nar hz12).1 ?_
    exact x_zret C (zok_w hz12) (hE _ (Option.some.inj hf).symm) dX12_weighs_12
abbrev rmX12_weighs_d6 : Room := { frames := 8, cells := 0, slots := 0, locals := 178 }
noncomputable def fLX12_weighs_d6_15 (x0 : Nat) (x1 : Int32) (a : Int32 × St) : Option ((Int32 × St) ⊕ ((St) ⊕ (St))) :=
if ((5 : Int32)) < a.1 then
(some (Sum.inr (Sum.inr a.2)))
else
((gR a.2 x0 11 35).bind fun v21 =>
(sI a.2 v21 x1 a.1).bind fun σ26 =>
(isO σ26 x0 11).bind fun _ =>
(fX12_weighs_d5 σ26 x0 (x1 + 1)).bind fun w31 =>
if w31.1 = 0 then
(xlet (a.1 + 1) fun v39 =>
some (Sum.inl (v39, w31.2)))
else
(some (Sum.inr (Sum.inl w31.2))))
set_option maxHeartbeats 4000000 in
set_option maxRecDepth 100000 in
theorem lpX12_weighs_d6_15 {X : xX} {x0 : Nat} {x1 : Int32}  {a0 : Int32 × St} {b : (St) ⊕ (St)} (C : Ok X cX12_weighs 3 RX12 rmX12_weighs_d6 (some .boolean)) (hb : iterP (fLX12_weighs_d6_15 x0 x1) a0 = some b) (hy0 : ∀ s, b = (Sum.inl s) → V X (0, 0) s 37 [] []) (hy1 : ∀ s, b = (Sum.inr s) → V X (0, 0) s 45 [] []) : V X (0, 0) a0.2 15 [(0, .ref (x0)), (1, .int (x1)), (2, .int (a0.1))] [] := by
  obtain ⟨n, hn⟩ := iterP_some hb
  refine x_loop (P := fun a => V X (0, 0) a.2 15 [(0, .ref (x0)), (1, .int (x1)), (2, .int (a.1))] []) ?_ n a0 hn
  intro a c hf hK hxx
  have hx0 : ∀ s, c = Sum.inr (Sum.inl s) → V X (0, 0) s 37 [] [] := fun s e => hy0 s (hxx _ e).symm
  have hx1 : ∀ s, c = Sum.inr (Sum.inr s) → V X (0, 0) s 45 [] [] := fun s e => hy1 s (hxx _ e).symm
  unfold fLX12_weighs_d6_15 at hf
  refine x_iload_n C dX12_weighs_15 16 rfl 2 rfl rfl ?_
  refine x_iconst C dX12_weighs_16 17 rfl 5 (by decide) ?_
  refine x_icmp_gt C dX12_weighs_17 45 (by decide) 20 rfl (fun hc => ?_) (fun hc => ?_)
  · have hf := (if_pos hc).symm.trans hf
    refine x_lv [] (lv' := []) rfl ?_
    exact hx1 _ (Option.some.inj hf).symm
  · have hf := (if_neg hc).symm.trans hf
    refine x_aload_n C dX12_weighs_20 21 rfl 0 rfl rfl ?_
    obtain ⟨v21, hv21, hf⟩ := x_bind hf
    refine x_getR C dX12_weighs_21 24 rfl hv21 cl11 rfl w1478 ?_
    refine x_iload_n C dX12_weighs_24 25 rfl 1 rfl rfl ?_
    refine x_iload_n C dX12_weighs_25 26 rfl 2 rfl rfl ?_
    obtain ⟨σ26, hσ26, hf⟩ := x_bind hf
    refine x_iastore C dX12_weighs_26 27 rfl hσ26 ?_
    refine x_aload_n C dX12_weighs_27 28 rfl 0 rfl rfl ?_
    refine x_iload_n C dX12_weighs_28 29 rfl 1 rfl rfl ?_
    refine x_iconst C dX12_weighs_29 30 rfl 1 (by decide) ?_
    refine x_iadd C dX12_weighs_30 31 rfl ?_
    obtain ⟨o31, ho31, hf⟩ := x_bind hf
    obtain ⟨w31, hw31, hf⟩ := x_bind hf
    refine x_callVi C dX12_weighs_31 34 rfl ho31 cl11.1 rfl (cX12_weighs_d5c hw31) kX12_weighs kvX12_weighs w1901 ⟨rfl, rfl⟩ ⟨Nat.le_of_ble_eq_true rfl, Nat.le_of_ble_eq_true rfl⟩ ⟨Nat.zero_le _, Nat.zero_le _⟩ rfl rfl (Nat.le_of_ble_eq_true rfl) ?_
    refine x_if_eq C dX12_weighs_34 39 (by decide) 37 rfl (fun hc => ?_) (fun hc => ?_)
    · have hf := (if_pos hc).symm.trans hf
      obtain ⟨v39, ev39, hf⟩ := xlet_some hf
      refine x_iinc C dX12_weighs_39 42 rfl 2 rfl v39 ev39 rfl [(2, .int (v39)), (0, .ref (x0)), (1, .int (x1))] rfl ?_
      refine x_goto C dX12_weighs_42 15 (by decide) ?_
      refine x_lv [1, 2, 0] (lv' := [(0, .ref (x0)), (1, .int (x1)), (2, .int (v39))]) rfl ?_
      exact hK _ (Option.some.inj hf).symm
    · have hf := (if_neg hc).symm.trans hf
      refine x_lv [] (lv' := []) rfl ?_
      exact hx0 _ (Option.some.inj hf).symm
noncomputable def fX12_weighs_d6 (σ : St) (x0 : Nat) (x1 : Int32) : Option ((Int32 × St)) :=
(isO σ x0 11).bind fun _ =>
(fX12_letters σ x0).bind fun w2 =>
if x1 = w2 then
((isO σ x0 11).bind fun _ =>
(fX12_doAllFall σ x0).bind fun w9 =>
(zok w9).bind fun z12 =>
some (z12, σ))
else
((iterP (fLX12_weighs_d6_15 x0 x1) (1, σ)).bind fun b15 =>
(match b15 with
| .inl s15 =>
some (1, s15)
| .inr s15 =>
some (0, s15)))
set_option maxHeartbeats 4000000 in
set_option maxRecDepth 100000 in
theorem cX12_weighs_d6c {l : Launch} {G : xG} {A : Nat → Prop} {σ : St} {x0 : Nat} {x1 : Int32} {c : (Int32 × St)} (hf : fX12_weighs_d6 σ x0 x1 = some c) : Con l yX12_weighs (xws yX12_weighs cX12_weighs 3 (some .boolean)) rmX12_weighs_d6 [.ref (x0), .int (x1)] G A σ (some (.int c.1)) c.2 := by
  refine x_start rfl (Nat.le_of_ble_eq_true rfl) (fun X _ _ _ C hE0 => ?_)
  have hE : ∀ r, c = r → xE1 X (some (.int r.1)) r.2 := fun r e => e ▸ hE0
  show V X (0, 0) σ 0 [(0, .ref (x0)), (1, .int (x1))] []
  unfold fX12_weighs_d6 at hf
  refine x_iload_n C dX12_weighs_0 1 rfl 1 rfl rfl ?_
  refine x_aload_n C dX12_weighs_1 2 rfl 0 rfl rfl ?_
  obtain ⟨o2, ho2, hf⟩ := x_bind hf
  obtain ⟨w2, hw2, hf⟩ := x_bind hf
  refine x_callVi C dX12_weighs_2 5 rfl ho2 cl11.1 rfl (cX12_lettersc hw2) kX12_letters kvX12_letters w1860 ⟨rfl, rfl⟩ ⟨Nat.le_of_ble_eq_true rfl, Nat.le_of_ble_eq_true rfl⟩ ⟨Nat.zero_le _, Nat.zero_le _⟩ rfl rfl (Nat.le_of_ble_eq_true rfl) ?_
  refine x_icmp_ne C dX12_weighs_5 13 (by decide) 8 rfl (fun hc => ?_) (fun hc => ?_)
  · have hf := (if_neg hc).symm.trans hf
    refine x_iconst C dX12_weighs_13 14 rfl 1 (by decide) ?_
    refine x_istore_n C dX12_weighs_14 15 rfl rfl rfl [(2, .int (1)), (0, .ref (x0)), (1, .int (x1))] rfl ?_
    obtain ⟨b15, hb15, hf⟩ := x_bind hf
    refine x_lv [1, 2, 0] (lv' := [(0, .ref (x0)), (1, .int (x1)), (2, .int (1))]) rfl ?_
    refine lpX12_weighs_d6_15 C hb15 (fun s15 e15 => ?_) (fun s15 e15 => ?_)
    · subst e15
      try dsimp only at hf
      refine x_iconst C dX12_weighs_37 38 rfl 1 (by decide) ?_
      exact x_zret C rfl (hE _ (Option.some.inj hf).symm) dX12_weighs_38
    · subst e15
      try dsimp only at hf
      refine x_iconst C dX12_weighs_45 46 rfl 0 (by decide) ?_
      exact x_zret C rfl (hE _ (Option.some.inj hf).symm) dX12_weighs_46
  · have hf := (if_pos hc).symm.trans hf
    refine x_aload_n C dX12_weighs_8 9 rfl 0 rfl rfl ?_
    obtain ⟨o9, ho9, hf⟩ := x_bind hf
    obtain ⟨w9, hw9, hf⟩ := x_bind hf
    refine x_callVi C dX12_weighs_9 12 rfl ho9 cl11.1 rfl (cX12_doAllFallc hw9) kX12_doAllFall kvX12_doAllFall w1905 ⟨rfl, rfl⟩ ⟨Nat.le_of_ble_eq_true rfl, Nat.le_of_ble_eq_true rfl⟩ ⟨Nat.zero_le _, Nat.zero_le _⟩ rfl rfl (Nat.le_of_ble_eq_true rfl) ?_
    obtain ⟨z12, hz12, hf⟩ := x_bind hf
    refine x_topi (zok_nar hz12).1 ?_
    exact x_zret C (zok_w hz12) (hE _ (Option.some.inj hf).symm) dX12_weighs_12
theorem dX12_letter_0 : decode cX12_letter 0 = .ok (.aload_n 0, 1) := by decide +kernel
theorem dX12_letter_1 : decode cX12_letter 1 = .ok (.iconst 0, 1) := by decide +kernel
theorem dX12_letter_2 : decode cX12_letter 2 = .ok (.putfield 1, 3) := by decide +kernel
theorem dX12_letter_5 : decode cX12_letter 5 = .ok (.aload_n 0, 1) := by decide +kernel
theorem dX12_letter_6 : decode cX12_letter 6 = .ok (.iload_n 1, 1) := by decide +kernel
theorem dX12_letter_7 : decode cX12_letter 7 = .ok (.i2l, 1) := by decide +kernel
theorem dX12_letter_8 : decode cX12_letter 8 = .ok (.lconst 0, 1) := by decide +kernel
theorem dX12_letter_9 : decode cX12_letter 9 = .ok (.aload_n 0, 1) := by decide +kernel
theorem dX12_letter_10 : decode cX12_letter 10 = .ok (.invokevirtual 409, 3) := by decide +kernel
theorem dX12_letter_13 : decode cX12_letter 13 = .ok (.iconst 1, 1) := by decide +kernel
theorem dX12_letter_14 : decode cX12_letter 14 = .ok (.isub, 1) := by decide +kernel
theorem dX12_letter_15 : decode cX12_letter 15 = .ok (.i2l, 1) := by decide +kernel
theorem dX12_letter_16 : decode cX12_letter 16 = .ok (.invokestatic 130, 3) := by decide +kernel
theorem dX12_letter_19 : decode cX12_letter 19 = .ok (.ifCond .eq 19, 3) := by decide +kernel
theorem dX12_letter_22 : decode cX12_letter 22 = .ok (.iload_n 2, 1) := by decide +kernel
theorem dX12_letter_23 : decode cX12_letter 23 = .ok (.i2l, 1) := by decide +kernel
theorem dX12_letter_24 : decode cX12_letter 24 = .ok (.lconst 0, 1) := by decide +kernel
theorem dX12_letter_25 : decode cX12_letter 25 = .ok (.ldc2_w 434, 3) := by decide +kernel
theorem dX12_letter_28 : decode cX12_letter 28 = .ok (.invokestatic 130, 3) := by decide +kernel
theorem dX12_letter_31 : decode cX12_letter 31 = .ok (.ifCond .eq 7, 3) := by decide +kernel
theorem dX12_letter_34 : decode cX12_letter 34 = .ok (.iconst 1, 1) := by decide +kernel
theorem dX12_letter_35 : decode cX12_letter 35 = .ok (.goto 4, 3) := by decide +kernel
theorem dX12_letter_38 : decode cX12_letter 38 = .ok (.iconst 0, 1) := by decide +kernel
theorem dX12_letter_39 : decode cX12_letter 39 = .ok (.iconst 1, 1) := by decide +kernel
theorem dX12_letter_40 : decode cX12_letter 40 = .ok (.invokevirtual 265, 3) := by decide +kernel
theorem dX12_letter_43 : decode cX12_letter 43 = .ok (.ifCond .ne 5, 3) := by decide +kernel
theorem dX12_letter_46 : decode cX12_letter 46 = .ok (.iconst 0, 1) := by decide +kernel
theorem dX12_letter_47 : decode cX12_letter 47 = .ok (.ireturn, 1) := by decide +kernel
theorem dX12_letter_48 : decode cX12_letter 48 = .ok (.iload_n 2, 1) := by decide +kernel
theorem dX12_letter_49 : decode cX12_letter 49 = .ok (.ifCond .ne 13, 3) := by decide +kernel
theorem dX12_letter_52 : decode cX12_letter 52 = .ok (.aload_n 0, 1) := by decide +kernel
theorem dX12_letter_53 : decode cX12_letter 53 = .ok (.getfield 13, 3) := by decide +kernel
theorem dX12_letter_56 : decode cX12_letter 56 = .ok (.iconst 2, 1) := by decide +kernel
theorem dX12_letter_57 : decode cX12_letter 57 = .ok (.iload_n 1, 1) := by decide +kernel
theorem dX12_letter_58 : decode cX12_letter 58 = .ok (.iadd, 1) := by decide +kernel
theorem dX12_letter_59 : decode cX12_letter 59 = .ok (.laload, 1) := by decide +kernel
theorem dX12_letter_60 : decode cX12_letter 60 = .ok (.l2i, 1) := by decide +kernel
theorem dX12_letter_61 : decode cX12_letter 61 = .ok (.ireturn, 1) := by decide +kernel
theorem dX12_letter_62 : decode cX12_letter 62 = .ok (.iload_n 2, 1) := by decide +kernel
theorem dX12_letter_63 : decode cX12_letter 63 = .ok (.iconst 1, 1) := by decide +kernel
theorem dX12_letter_64 : decode cX12_letter 64 = .ok (.if_icmp .ne 11, 3) := by decide +kernel
theorem dX12_letter_67 : decode cX12_letter 67 = .ok (.aload_n 0, 1) := by decide +kernel
theorem dX12_letter_68 : decode cX12_letter 68 = .ok (.iload_n 1, 1) := by decide +kernel
theorem dX12_letter_69 : decode cX12_letter 69 = .ok (.invokevirtual 164, 3) := by decide +kernel
theorem dX12_letter_72 : decode cX12_letter 72 = .ok (.goto 21, 3) := by decide +kernel
theorem dX12_letter_75 : decode cX12_letter 75 = .ok (.aload_n 0, 1) := by decide +kernel
theorem dX12_letter_76 : decode cX12_letter 76 = .ok (.iconst 0, 1) := by decide +kernel
theorem dX12_letter_77 : decode cX12_letter 77 = .ok (.invokevirtual 431, 3) := by decide +kernel
theorem dX12_letter_80 : decode cX12_letter 80 = .ok (.ifCond .eq 12, 3) := by decide +kernel
theorem dX12_letter_83 : decode cX12_letter 83 = .ok (.aload_n 0, 1) := by decide +kernel
theorem dX12_letter_84 : decode cX12_letter 84 = .ok (.getfield 52, 3) := by decide +kernel
theorem dX12_letter_87 : decode cX12_letter 87 = .ok (.iload_n 1, 1) := by decide +kernel
theorem dX12_letter_88 : decode cX12_letter 88 = .ok (.iaload, 1) := by decide +kernel
theorem dX12_letter_89 : decode cX12_letter 89 = .ok (.goto 4, 3) := by decide +kernel
theorem dX12_letter_92 : decode cX12_letter 92 = .ok (.iconst (-1), 1) := by decide +kernel
theorem dX12_letter_93 : decode cX12_letter 93 = .ok (.ireturn, 1) := by decide +kernel
abbrev rmX12_letter : Room := { frames := 9, cells := 0, slots := 0, locals := 200 }
noncomputable def fJX12_letter_m_39 (σ : St) (x0 : Nat) (x1 : Int32) (x2 : Int32) (t0 : Int32) (t1 : Nat) : Option ((Int32 × St)) :=
(isO σ t1 11).bind fun _ =>
(fX12_right σ t1 t0 1).bind fun w40 =>
if w40.1 = 0 then
(some (0, w40.2))
else
(if x2 = 0 then
((gR w40.2 x0 11 1).bind fun v53 =>
(aL w40.2 v53 (2 + x1)).bind fun v59 =>
some (v59.toInt32, w40.2))
else
(if x2 = ((1 : Int32)) then
((isO w40.2 x0 11).bind fun _ =>
(fX12_orderOf w40.2 x0 x1).bind fun w69 =>
some (w69, w40.2))
else
((isO w40.2 x0 11).bind fun _ =>
(fX12_weighs_d6 w40.2 x0 0).bind fun w77 =>
if w77.1 = 0 then
(some ((-1), w77.2))
else
((gR w77.2 x0 11 35).bind fun v84 =>
(aI w77.2 v84 0 x1).bind fun v88 =>
some (v88, w77.2)))))
set_option maxHeartbeats 4000000 in
set_option maxRecDepth 100000 in
theorem jnX12_letter_m_39 {X : xX} {σ : St} {x0 : Nat} {x1 : Int32} {x2 : Int32} {t0 : Int32} {t1 : Nat}  {c : (Int32 × St)} (C : Ok X cX12_letter 3 RX12 rmX12_letter (some .int)) (hf : fJX12_letter_m_39 σ x0 x1 x2 t0 t1 = some c) (hE : ∀ r, c = r → xE1 X (some (.int r.1)) r.2) : V X (0, 0) σ 39 [(0, .ref (x0)), (1, .int (x1)), (2, .int (x2))] [.int (t0), .ref (t1)] := by
  unfold fJX12_letter_m_39 at hf
  refine x_iconst C dX12_letter_39 40 rfl 1 (by decide) ?_
  obtain ⟨o40, ho40, hf⟩ := x_bind hf
  obtain ⟨w40, hw40, hf⟩ := x_bind hf
  refine x_callVi C dX12_letter_40 43 rfl ho40 cl11.1 rfl (cX12_rightc hw40) kX12_right kvX12_right w1648 ⟨rfl, rfl⟩ ⟨Nat.le_of_ble_eq_true rfl, Nat.le_of_ble_eq_true rfl⟩ ⟨Nat.zero_le _, Nat.zero_le _⟩ rfl rfl (Nat.le_of_ble_eq_true rfl) ?_
  refine x_if_ne C dX12_letter_43 48 (by decide) 46 rfl (fun hc => ?_) (fun hc => ?_)
  · have hf := (if_neg hc).symm.trans hf
    refine x_iload_n C dX12_letter_48 49 rfl 2 rfl rfl ?_
    refine x_if_ne C dX12_letter_49 62 (by decide) 52 rfl (fun hc => ?_) (fun hc => ?_)
    · have hf := (if_neg hc).symm.trans hf
      refine x_iload_n C dX12_letter_62 63 rfl 2 rfl rfl ?_
      refine x_iconst C dX12_letter_63 64 rfl 1 (by decide) ?_
      refine x_icmp_ne C dX12_letter_64 75 (by decide) 67 rfl (fun hc => ?_) (fun hc => ?_)
      · have hf := (if_neg hc).symm.trans hf
        refine x_aload_n C dX12_letter_75 76 rfl 0 rfl rfl ?_
        refine x_iconst C dX12_letter_76 77 rfl 0 (by decide) ?_
        obtain ⟨o77, ho77, hf⟩ := x_bind hf
        obtain ⟨w77, hw77, hf⟩ := x_bind hf
        refine x_callVi C dX12_letter_77 80 rfl ho77 cl11.1 rfl (cX12_weighs_d6c hw77) kX12_weighs kvX12_weighs w1901 ⟨rfl, rfl⟩ ⟨Nat.le_of_ble_eq_true rfl, Nat.le_of_ble_eq_true rfl⟩ ⟨Nat.zero_le _, Nat.zero_le _⟩ rfl rfl (Nat.le_of_ble_eq_true rfl) ?_
        refine x_if_eq C dX12_letter_80 92 (by decide) 83 rfl (fun hc => ?_) (fun hc => ?_)
        · have hf := (if_pos hc).symm.trans hf
          refine x_iconst C dX12_letter_92 93 rfl (-1) (by decide) ?_
          exact x_iret C (hE _ (Option.some.inj hf).symm) dX12_letter_93
        · have hf := (if_neg hc).symm.trans hf
          refine x_aload_n C dX12_letter_83 84 rfl 0 rfl rfl ?_
          obtain ⟨v84, hv84, hf⟩ := x_bind hf
          refine x_getR C dX12_letter_84 87 rfl hv84 cl11 rfl w1478 ?_
          refine x_iload_n C dX12_letter_87 88 rfl 1 rfl rfl ?_
          obtain ⟨v88, hv88, hf⟩ := x_bind hf
          refine x_iaload C dX12_letter_88 89 rfl hv88 ?_
          refine x_goto C dX12_letter_89 93 (by decide) ?_
          exact x_iret C (hE _ (Option.some.inj hf).symm) dX12_letter_93
      · have hf := (if_pos hc).symm.trans hf
        refine x_aload_n C dX12_letter_67 68 rfl 0 rfl rfl ?_
        refine x_iload_n C dX12_letter_68 69 rfl 1 rfl rfl ?_
        obtain ⟨o69, ho69, hf⟩ := x_bind hf
        obtain ⟨w69, hw69, hf⟩ := x_bind hf
        refine x_callVi C dX12_letter_69 72 rfl ho69 cl11.1 rfl (cX12_orderOfc hw69) kX12_orderOf kvX12_orderOf w1768 ⟨rfl, rfl⟩ ⟨Nat.le_of_ble_eq_true rfl, Nat.le_of_ble_eq_true rfl⟩ ⟨Nat.zero_le _, Nat.zero_le _⟩ rfl rfl (Nat.le_of_ble_eq_true rfl) ?_
        refine x_goto C dX12_letter_72 93 (by decide) ?_
        exact x_iret C (hE _ (Option.some.inj hf).symm) dX12_letter_93
    · have hf := (if_pos hc).symm.trans hf
      refine x_aload_n C dX12_letter_52 53 rfl 0 rfl rfl ?_
      obtain ⟨v53, hv53, hf⟩ := x_bind hf
      refine x_getR C dX12_letter_53 56 rfl hv53 cl11 rfl w1444 ?_
      refine x_iconst C dX12_letter_56 57 rfl 2 (by decide) ?_
      refine x_iload_n C dX12_letter_57 58 rfl 1 rfl rfl ?_
      refine x_iadd C dX12_letter_58 59 rfl ?_
      obtain ⟨v59, hv59, hf⟩ := x_bind hf
      refine x_laload C dX12_letter_59 60 rfl hv59 ?_
      refine x_l2i C dX12_letter_60 61 rfl ?_
      exact x_iret C (hE _ (Option.some.inj hf).symm) dX12_letter_61
  · have hf := (if_pos hc).symm.trans hf
    refine x_iconst C dX12_letter_46 47 rfl 0 (by decide) ?_
    exact x_iret C (hE _ (Option.some.inj hf).symm) dX12_letter_47
noncomputable def fJX12_letter_m_38 (σ : St) (x0 : Nat) (x1 : Int32) (x2 : Int32) (t0 : Nat) : Option ((Int32 × St)) :=
fJX12_letter_m_39 σ x0 x1 x2 0 t0
set_option maxHeartbeats 4000000 in
set_option maxRecDepth 100000 in
theorem jnX12_letter_m_38 {X : xX} {σ : St} {x0 : Nat} {x1 : Int32} {x2 : Int32} {t0 : Nat}  {c : (Int32 × St)} (C : Ok X cX12_letter 3 RX12 rmX12_letter (some .int)) (hf : fJX12_letter_m_38 σ x0 x1 x2 t0 = some c) (hE : ∀ r, c = r → xE1 X (some (.int r.1)) r.2) : V X (0, 0) σ 38 [(0, .ref (x0)), (1, .int (x1)), (2, .int (x2))] [.ref (t0)] := by
  unfold fJX12_letter_m_38 at hf
  refine x_iconst C dX12_letter_38 39 rfl 0 (by decide) ?_
  exact jnX12_letter_m_39 C hf hE
noncomputable def fX12_letter (σ : St) (x0 : Nat) (x1 : Int32) (x2 : Int32) : Option ((Int32 × St)) :=
(wrF σ x0 11 0 (.int (0))).bind fun σ2 =>
(isO σ2 x0 11).bind fun _ =>
(fX12_letters σ2 x0).bind fun w10 =>
(fX12_isIn x1.toInt64 0 ((w10 - 1).toInt64)).bind fun w16 =>
if w16 = 0 then
(fJX12_letter_m_38 σ2 x0 x1 x2 x0)
else
((fX12_isIn x2.toInt64 0 2).bind fun w28 =>
if w28 = 0 then
(fJX12_letter_m_38 σ2 x0 x1 x2 x0)
else
(fJX12_letter_m_39 σ2 x0 x1 x2 1 x0))
set_option maxHeartbeats 4000000 in
set_option maxRecDepth 100000 in
theorem cX12_letterc {l : Launch} {G : xG} {A : Nat → Prop} {σ : St} {x0 : Nat} {x1 : Int32} {x2 : Int32} {c : (Int32 × St)} (hf : fX12_letter σ x0 x1 x2 = some c) : Con l yX12_letter (xws yX12_letter cX12_letter 3 (some .int)) rmX12_letter [.ref (x0), .int (x1), .int (x2)] G A σ (some (.int c.1)) c.2 := by
  refine x_start rfl (Nat.le_of_ble_eq_true rfl) (fun X _ _ _ C hE0 => ?_)
  have hE : ∀ r, c = r → xE1 X (some (.int r.1)) r.2 := fun r e => e ▸ hE0
  show V X (0, 0) σ 0 [(0, .ref (x0)), (1, .int (x1)), (2, .int (x2))] []
  unfold fX12_letter at hf
  refine x_aload_n C dX12_letter_0 1 rfl 0 rfl rfl ?_
  refine x_iconst C dX12_letter_1 2 rfl 0 (by decide) ?_
  obtain ⟨σ2, hσ2, hf⟩ := x_bind hf
  refine x_putX C dX12_letter_2 5 rfl hσ2 cl11 rfl w1443 rfl rfl rfl ?_
  refine x_aload_n C dX12_letter_5 6 rfl 0 rfl rfl ?_
  refine x_iload_n C dX12_letter_6 7 rfl 1 rfl rfl ?_
  refine x_i2l C dX12_letter_7 8 rfl ?_
  refine x_lconst C dX12_letter_8 9 rfl 0 (by decide) ?_
  refine x_aload_n C dX12_letter_9 10 rfl 0 rfl rfl ?_
  obtain ⟨o10, ho10, hf⟩ := x_bind hf
  obtain ⟨w10, hw10, hf⟩ := x_bind hf
  refine x_callVi C dX12_letter_10 13 rfl ho10 cl11.1 rfl (cX12_lettersc hw10) kX12_letters kvX12_letters w1860 ⟨rfl, rfl⟩ ⟨Nat.le_of_ble_eq_true rfl, Nat.le_of_ble_eq_true rfl⟩ ⟨Nat.zero_le _, Nat.zero_le _⟩ rfl rfl (Nat.le_of_ble_eq_true rfl) ?_
  refine x_iconst C dX12_letter_13 14 rfl 1 (by decide) ?_
  refine x_isub C dX12_letter_14 15 rfl ?_
  refine x_i2l C dX12_letter_15 16 rfl ?_
  obtain ⟨w16, hw16, hf⟩ := x_bind hf
  refine x_callSi C dX12_letter_16 19 rfl (cX12_isInc hw16) kX12_isIn ksX12_isIn w1645 ⟨rfl, rfl⟩ ⟨Nat.le_of_ble_eq_true rfl, Nat.le_of_ble_eq_true rfl⟩ ⟨Nat.zero_le _, Nat.zero_le _⟩ rfl rfl (Nat.le_of_ble_eq_true rfl) ?_
  refine x_if_eq C dX12_letter_19 38 (by decide) 22 rfl (fun hc => ?_) (fun hc => ?_)
  · have hf := (if_pos hc).symm.trans hf
    exact jnX12_letter_m_38 C hf hE
  · have hf := (if_neg hc).symm.trans hf
    refine x_iload_n C dX12_letter_22 23 rfl 2 rfl rfl ?_
    refine x_i2l C dX12_letter_23 24 rfl ?_
    refine x_lconst C dX12_letter_24 25 rfl 0 (by decide) ?_
    refine x_ldc2 C dX12_letter_25 28 rfl w1900 ?_
    obtain ⟨w28, hw28, hf⟩ := x_bind hf
    refine x_callSi C dX12_letter_28 31 rfl (cX12_isInc hw28) kX12_isIn ksX12_isIn w1645 ⟨rfl, rfl⟩ ⟨Nat.le_of_ble_eq_true rfl, Nat.le_of_ble_eq_true rfl⟩ ⟨Nat.zero_le _, Nat.zero_le _⟩ rfl rfl (Nat.le_of_ble_eq_true rfl) ?_
    refine x_if_eq C dX12_letter_31 38 (by decide) 34 rfl (fun hc => ?_) (fun hc => ?_)
    · have hf := (if_pos hc).symm.trans hf
      exact jnX12_letter_m_38 C hf hE
    · have hf := (if_neg hc).symm.trans hf
      refine x_iconst C dX12_letter_34 35 rfl 1 (by decide) ?_
      refine x_goto C dX12_letter_35 39 (by decide) ?_
      exact jnX12_letter_m_39 C hf hE
theorem dX12_loopOf_0 : decode cX12_loopOf 0 = .ok (.iconst 0, 1) := by decide +kernel
theorem dX12_loopOf_1 : decode cX12_loopOf 1 = .ok (.istore_n 1, 1) := by decide +kernel
theorem dX12_loopOf_2 : decode cX12_loopOf 2 = .ok (.iload_n 1, 1) := by decide +kernel
theorem dX12_loopOf_3 : decode cX12_loopOf 3 = .ok (.aload_n 0, 1) := by decide +kernel
theorem dX12_loopOf_4 : decode cX12_loopOf 4 = .ok (.getfield 49, 3) := by decide +kernel
theorem dX12_loopOf_7 : decode cX12_loopOf 7 = .ok (.iconst 0, 1) := by decide +kernel
theorem dX12_loopOf_8 : decode cX12_loopOf 8 = .ok (.iaload, 1) := by decide +kernel
theorem dX12_loopOf_9 : decode cX12_loopOf 9 = .ok (.if_icmp .ge 37, 3) := by decide +kernel
theorem dX12_loopOf_12 : decode cX12_loopOf 12 = .ok (.aload_n 0, 1) := by decide +kernel
theorem dX12_loopOf_13 : decode cX12_loopOf 13 = .ok (.aload_n 0, 1) := by decide +kernel
theorem dX12_loopOf_14 : decode cX12_loopOf 14 = .ok (.getfield 43, 3) := by decide +kernel
theorem dX12_loopOf_17 : decode cX12_loopOf 17 = .ok (.iload_n 1, 1) := by decide +kernel
theorem dX12_loopOf_18 : decode cX12_loopOf 18 = .ok (.laload, 1) := by decide +kernel
theorem dX12_loopOf_19 : decode cX12_loopOf 19 = .ok (.aload_n 0, 1) := by decide +kernel
theorem dX12_loopOf_20 : decode cX12_loopOf 20 = .ok (.getfield 43, 3) := by decide +kernel
theorem dX12_loopOf_23 : decode cX12_loopOf 23 = .ok (.iconst 0, 1) := by decide +kernel
theorem dX12_loopOf_24 : decode cX12_loopOf 24 = .ok (.laload, 1) := by decide +kernel
theorem dX12_loopOf_25 : decode cX12_loopOf 25 = .ok (.invokevirtual 340, 3) := by decide +kernel
theorem dX12_loopOf_28 : decode cX12_loopOf 28 = .ok (.ifCond .eq 12, 3) := by decide +kernel
theorem dX12_loopOf_31 : decode cX12_loopOf 31 = .ok (.aload_n 0, 1) := by decide +kernel
theorem dX12_loopOf_32 : decode cX12_loopOf 32 = .ok (.getfield 46, 3) := by decide +kernel
theorem dX12_loopOf_35 : decode cX12_loopOf 35 = .ok (.iload_n 1, 1) := by decide +kernel
theorem dX12_loopOf_36 : decode cX12_loopOf 36 = .ok (.iaload, 1) := by decide +kernel
theorem dX12_loopOf_37 : decode cX12_loopOf 37 = .ok (.iconst 1, 1) := by decide +kernel
theorem dX12_loopOf_38 : decode cX12_loopOf 38 = .ok (.iadd, 1) := by decide +kernel
theorem dX12_loopOf_39 : decode cX12_loopOf 39 = .ok (.ireturn, 1) := by decide +kernel
theorem dX12_loopOf_40 : decode cX12_loopOf 40 = .ok (.iinc 1 1, 3) := by decide +kernel
theorem dX12_loopOf_43 : decode cX12_loopOf 43 = .ok (.goto (-41), 3) := by decide +kernel
theorem dX12_loopOf_46 : decode cX12_loopOf 46 = .ok (.iconst (-1), 1) := by decide +kernel
theorem dX12_loopOf_47 : decode cX12_loopOf 47 = .ok (.ireturn, 1) := by decide +kernel
abbrev rmX12_loopOf : Room := { frames := 6, cells := 0, slots := 0, locals := 154 }
noncomputable def fLX12_loopOf_2 (x0 : Nat) (a : Int32 × St) : Option ((Int32 × St) ⊕ ((Int32 × St) ⊕ (St))) :=
(gR a.2 x0 11 27).bind fun v4 =>
(aI a.2 v4 0 0).bind fun v8 =>
if v8 ≤ a.1 then
(some (Sum.inr (Sum.inr a.2)))
else
((gR a.2 x0 11 25).bind fun v14 =>
(aL a.2 v14 a.1).bind fun v18 =>
(gR a.2 x0 11 25).bind fun v20 =>
(aL a.2 v20 0).bind fun v24 =>
(isO a.2 x0 11).bind fun _ =>
(fX12_comesTo a.2 x0 v18 v24).bind fun w25 =>
if w25.1 = 0 then
(xlet (a.1 + 1) fun v40 =>
some (Sum.inl (v40, w25.2)))
else
(some (Sum.inr (Sum.inl (a.1, w25.2)))))
set_option maxHeartbeats 4000000 in
set_option maxRecDepth 100000 in
theorem lpX12_loopOf_2 {X : xX} {x0 : Nat}  {a0 : Int32 × St} {b : (Int32 × St) ⊕ (St)} (C : Ok X cX12_loopOf 2 RX12 rmX12_loopOf (some .int)) (hb : iterP (fLX12_loopOf_2 x0) a0 = some b) (hy0 : ∀ s, b = (Sum.inl s) → V X (0, 0) s.2 31 [(0, .ref (x0)), (1, .int (s.1))] []) (hy1 : ∀ s, b = (Sum.inr s) → V X (0, 0) s 46 [] []) : V X (0, 0) a0.2 2 [(0, .ref (x0)), (1, .int (a0.1))] [] := by
  obtain ⟨n, hn⟩ := iterP_some hb
  refine x_loop (P := fun a => V X (0, 0) a.2 2 [(0, .ref (x0)), (1, .int (a.1))] []) ?_ n a0 hn
  intro a c hf hK hxx
  have hx0 : ∀ s, c = Sum.inr (Sum.inl s) → V X (0, 0) s.2 31 [(0, .ref (x0)), (1, .int (s.1))] [] := fun s e => hy0 s (hxx _ e).symm
  have hx1 : ∀ s, c = Sum.inr (Sum.inr s) → V X (0, 0) s 46 [] [] := fun s e => hy1 s (hxx _ e).symm
  unfold fLX12_loopOf_2 at hf
  refine x_iload_n C dX12_loopOf_2 3 rfl 1 rfl rfl ?_
  refine x_aload_n C dX12_loopOf_3 4 rfl 0 rfl rfl ?_
  obtain ⟨v4, hv4, hf⟩ := x_bind hf
  refine x_getR C dX12_loopOf_4 7 rfl hv4 cl11 rfl w1470 ?_
  refine x_iconst C dX12_loopOf_7 8 rfl 0 (by decide) ?_
  obtain ⟨v8, hv8, hf⟩ := x_bind hf
  refine x_iaload C dX12_loopOf_8 9 rfl hv8 ?_
  refine x_icmp_ge C dX12_loopOf_9 46 (by decide) 12 rfl (fun hc => ?_) (fun hc => ?_)
  · have hf := (if_pos hc).symm.trans hf
    refine x_lv [] (lv' := []) rfl ?_
    exact hx1 _ (Option.some.inj hf).symm
  · have hf := (if_neg hc).symm.trans hf
    refine x_aload_n C dX12_loopOf_12 13 rfl 0 rfl rfl ?_
    refine x_aload_n C dX12_loopOf_13 14 rfl 0 rfl rfl ?_
    obtain ⟨v14, hv14, hf⟩ := x_bind hf
    refine x_getR C dX12_loopOf_14 17 rfl hv14 cl11 rfl w1468 ?_
    refine x_iload_n C dX12_loopOf_17 18 rfl 1 rfl rfl ?_
    obtain ⟨v18, hv18, hf⟩ := x_bind hf
    refine x_laload C dX12_loopOf_18 19 rfl hv18 ?_
    refine x_aload_n C dX12_loopOf_19 20 rfl 0 rfl rfl ?_
    obtain ⟨v20, hv20, hf⟩ := x_bind hf
    refine x_getR C dX12_loopOf_20 23 rfl hv20 cl11 rfl w1468 ?_
    refine x_iconst C dX12_loopOf_23 24 rfl 0 (by decide) ?_
    obtain ⟨v24, hv24, hf⟩ := x_bind hf
    refine x_laload C dX12_loopOf_24 25 rfl hv24 ?_
    obtain ⟨o25, ho25, hf⟩ := x_bind hf
    obtain ⟨w25, hw25, hf⟩ := x_bind hf
    refine x_callVi C dX12_loopOf_25 28 rfl ho25 cl11.1 rfl (cX12_comesToc hw25) kX12_comesTo kvX12_comesTo w1976 ⟨rfl, rfl⟩ ⟨Nat.le_of_ble_eq_true rfl, Nat.le_of_ble_eq_true rfl⟩ ⟨Nat.zero_le _, Nat.zero_le _⟩ rfl rfl (Nat.le_of_ble_eq_true rfl) ?_
    refine x_if_eq C dX12_loopOf_28 40 (by decide) 31 rfl (fun hc => ?_) (fun hc => ?_)
    · have hf := (if_pos hc).symm.trans hf
      obtain ⟨v40, ev40, hf⟩ := xlet_some hf
      refine x_iinc C dX12_loopOf_40 43 rfl 1 rfl v40 ev40 rfl [(1, .int (v40)), (0, .ref (x0))] rfl ?_
      refine x_goto C dX12_loopOf_43 2 (by decide) ?_
      refine x_lv [1, 0] (lv' := [(0, .ref (x0)), (1, .int (v40))]) rfl ?_
      exact hK _ (Option.some.inj hf).symm
    · have hf := (if_neg hc).symm.trans hf
      exact hx0 _ (Option.some.inj hf).symm
noncomputable def fX12_loopOf (σ : St) (x0 : Nat) : Option ((Int32 × St)) :=
(iterP (fLX12_loopOf_2 x0) (0, σ)).bind fun b2 =>
(match b2 with
| .inl s2 =>
(gR s2.2 x0 11 26).bind fun v32 =>
(aI s2.2 v32 0 s2.1).bind fun v36 =>
some (v36 + 1, s2.2)
| .inr s2 =>
some ((-1), s2))
set_option maxHeartbeats 4000000 in
set_option maxRecDepth 100000 in
theorem cX12_loopOfc {l : Launch} {G : xG} {A : Nat → Prop} {σ : St} {x0 : Nat} {c : (Int32 × St)} (hf : fX12_loopOf σ x0 = some c) : Con l yX12_loopOf (xws yX12_loopOf cX12_loopOf 2 (some .int)) rmX12_loopOf [.ref (x0)] G A σ (some (.int c.1)) c.2 := by
  refine x_start rfl (Nat.le_of_ble_eq_true rfl) (fun X _ _ _ C hE0 => ?_)
  have hE : ∀ r, c = r → xE1 X (some (.int r.1)) r.2 := fun r e => e ▸ hE0
  show V X (0, 0) σ 0 [(0, .ref (x0))] []
  unfold fX12_loopOf at hf
  refine x_iconst C dX12_loopOf_0 1 rfl 0 (by decide) ?_
  refine x_istore_n C dX12_loopOf_1 2 rfl rfl rfl [(1, .int (0)), (0, .ref (x0))] rfl ?_
  obtain ⟨b2, hb2, hf⟩ := x_bind hf
  refine x_lv [1, 0] (lv' := [(0, .ref (x0)), (1, .int (0))]) rfl ?_
  refine lpX12_loopOf_2 C hb2 (fun s2 e2 => ?_) (fun s2 e2 => ?_)
  · subst e2
    try dsimp only at hf
    refine x_aload_n C dX12_loopOf_31 32 rfl 0 rfl rfl ?_
    obtain ⟨v32, hv32, hf⟩ := x_bind hf
    refine x_getR C dX12_loopOf_32 35 rfl hv32 cl11 rfl w1469 ?_
    refine x_iload_n C dX12_loopOf_35 36 rfl 1 rfl rfl ?_
    obtain ⟨v36, hv36, hf⟩ := x_bind hf
    refine x_iaload C dX12_loopOf_36 37 rfl hv36 ?_
    refine x_iconst C dX12_loopOf_37 38 rfl 1 (by decide) ?_
    refine x_iadd C dX12_loopOf_38 39 rfl ?_
    exact x_iret C (hE _ (Option.some.inj hf).symm) dX12_loopOf_39
  · subst e2
    try dsimp only at hf
    refine x_iconst C dX12_loopOf_46 47 rfl (-1) (by decide) ?_
    exact x_iret C (hE _ (Option.some.inj hf).symm) dX12_loopOf_47
theorem dX12_made__0 : decode cX12_made_ 0 = .ok (.aload_n 0, 1) := by decide +kernel
theorem dX12_made__1 : decode cX12_made_ 1 = .ok (.iconst 0, 1) := by decide +kernel
theorem dX12_made__2 : decode cX12_made_ 2 = .ok (.putfield 1, 3) := by decide +kernel
theorem dX12_made__5 : decode cX12_made_ 5 = .ok (.aload_n 0, 1) := by decide +kernel
theorem dX12_made__6 : decode cX12_made_ 6 = .ok (.aload_n 0, 1) := by decide +kernel
theorem dX12_made__7 : decode cX12_made_ 7 = .ok (.iload_n 1, 1) := by decide +kernel
theorem dX12_made__8 : decode cX12_made_ 8 = .ok (.iload_n 2, 1) := by decide +kernel
theorem dX12_made__9 : decode cX12_made_ 9 = .ok (.invokevirtual 551, 3) := by decide +kernel
theorem dX12_made__12 : decode cX12_made_ 12 = .ok (.ifCond .eq 19, 3) := by decide +kernel
theorem dX12_made__15 : decode cX12_made_ 15 = .ok (.iload_n 3, 1) := by decide +kernel
theorem dX12_made__16 : decode cX12_made_ 16 = .ok (.i2l, 1) := by decide +kernel
theorem dX12_made__17 : decode cX12_made_ 17 = .ok (.lconst 0, 1) := by decide +kernel
theorem dX12_made__18 : decode cX12_made_ 18 = .ok (.ldc2_w 420, 3) := by decide +kernel
theorem dX12_made__21 : decode cX12_made_ 21 = .ok (.invokestatic 130, 3) := by decide +kernel
theorem dX12_made__24 : decode cX12_made_ 24 = .ok (.ifCond .eq 7, 3) := by decide +kernel
theorem dX12_made__27 : decode cX12_made_ 27 = .ok (.iconst 1, 1) := by decide +kernel
theorem dX12_made__28 : decode cX12_made_ 28 = .ok (.goto 4, 3) := by decide +kernel
theorem dX12_made__31 : decode cX12_made_ 31 = .ok (.iconst 0, 1) := by decide +kernel
theorem dX12_made__32 : decode cX12_made_ 32 = .ok (.iconst 1, 1) := by decide +kernel
theorem dX12_made__33 : decode cX12_made_ 33 = .ok (.invokevirtual 265, 3) := by decide +kernel
theorem dX12_made__36 : decode cX12_made_ 36 = .ok (.ifCond .ne 5, 3) := by decide +kernel
theorem dX12_made__39 : decode cX12_made_ 39 = .ok (.iconst 0, 1) := by decide +kernel
theorem dX12_made__40 : decode cX12_made_ 40 = .ok (.ireturn, 1) := by decide +kernel
theorem dX12_made__41 : decode cX12_made_ 41 = .ok (.aload_n 0, 1) := by decide +kernel
theorem dX12_made__42 : decode cX12_made_ 42 = .ok (.iload_n 1, 1) := by decide +kernel
theorem dX12_made__43 : decode cX12_made_ 43 = .ok (.invokevirtual 474, 3) := by decide +kernel
theorem dX12_made__46 : decode cX12_made_ 46 = .ok (.iload_n 3, 1) := by decide +kernel
theorem dX12_made__47 : decode cX12_made_ 47 = .ok (.tableswitch 57 0 3 #[29, 36, 43, 50], 29) := by decide +kernel
theorem dX12_made__76 : decode cX12_made_ 76 = .ok (.aload_n 0, 1) := by decide +kernel
theorem dX12_made__77 : decode cX12_made_ 77 = .ok (.iload_n 1, 1) := by decide +kernel
theorem dX12_made__78 : decode cX12_made_ 78 = .ok (.iload_n 2, 1) := by decide +kernel
theorem dX12_made__79 : decode cX12_made_ 79 = .ok (.invokevirtual 526, 3) := by decide +kernel
theorem dX12_made__82 : decode cX12_made_ 82 = .ok (.ireturn, 1) := by decide +kernel
theorem dX12_made__83 : decode cX12_made_ 83 = .ok (.aload_n 0, 1) := by decide +kernel
theorem dX12_made__84 : decode cX12_made_ 84 = .ok (.iload_n 1, 1) := by decide +kernel
theorem dX12_made__85 : decode cX12_made_ 85 = .ok (.iload_n 2, 1) := by decide +kernel
theorem dX12_made__86 : decode cX12_made_ 86 = .ok (.invokevirtual 529, 3) := by decide +kernel
theorem dX12_made__89 : decode cX12_made_ 89 = .ok (.ireturn, 1) := by decide +kernel
theorem dX12_made__90 : decode cX12_made_ 90 = .ok (.aload_n 0, 1) := by decide +kernel
theorem dX12_made__91 : decode cX12_made_ 91 = .ok (.getfield 85, 3) := by decide +kernel
theorem dX12_made__94 : decode cX12_made_ 94 = .ok (.iload_n 2, 1) := by decide +kernel
theorem dX12_made__95 : decode cX12_made_ 95 = .ok (.iaload, 1) := by decide +kernel
theorem dX12_made__96 : decode cX12_made_ 96 = .ok (.ireturn, 1) := by decide +kernel
theorem dX12_made__97 : decode cX12_made_ 97 = .ok (.aload_n 0, 1) := by decide +kernel
theorem dX12_made__98 : decode cX12_made_ 98 = .ok (.getfield 88, 3) := by decide +kernel
theorem dX12_made__101 : decode cX12_made_ 101 = .ok (.iload_n 2, 1) := by decide +kernel
theorem dX12_made__102 : decode cX12_made_ 102 = .ok (.iaload, 1) := by decide +kernel
theorem dX12_made__103 : decode cX12_made_ 103 = .ok (.ireturn, 1) := by decide +kernel
theorem dX12_made__104 : decode cX12_made_ 104 = .ok (.aload_n 0, 1) := by decide +kernel
theorem dX12_made__105 : decode cX12_made_ 105 = .ok (.getfield 91, 3) := by decide +kernel
theorem dX12_made__108 : decode cX12_made_ 108 = .ok (.iload_n 2, 1) := by decide +kernel
theorem dX12_made__109 : decode cX12_made_ 109 = .ok (.iaload, 1) := by decide +kernel
theorem dX12_made__110 : decode cX12_made_ 110 = .ok (.ireturn, 1) := by decide +kernel
abbrev rmX12_made_ : Room := { frames := 4, cells := 0, slots := 0, locals := 113 }
noncomputable def fJX12_made__m_32 (σ : St) (x0 : Nat) (x1 : Int32) (x2 : Int32) (x3 : Int32) (t0 : Int32) (t1 : Nat) : Option ((Int32 × St)) :=
(isO σ t1 11).bind fun _ =>
(fX12_right σ t1 t0 1).bind fun w33 =>
if w33.1 = 0 then
(some (0, w33.2))
else
((isO w33.2 x0 11).bind fun _ =>
(fX12_laysDrawing w33.2 x0 x1).bind fun w43 =>
if x3.toInt < 0 ∨ 3 < x3.toInt then
((gR w43 x0 11 51).bind fun v105 =>
(aI w43 v105 0 x2).bind fun v109 =>
some (v109, w43))
else
(if x3 = 0 then
((isO w43 x0 11).bind fun _ =>
(fX12_whereOf w43 x0 x1 x2).bind fun w79 =>
some (w79, w43))
else
(if x3 = 1 then
((isO w43 x0 11).bind fun _ =>
(fX12_ruleOf w43 x0 x1 x2).bind fun w86 =>
some (w86, w43))
else
(if x3 = 2 then
((gR w43 x0 11 49).bind fun v91 =>
(aI w43 v91 0 x2).bind fun v95 =>
some (v95, w43))
else
(if x3 = 3 then
((gR w43 x0 11 50).bind fun v98 =>
(aI w43 v98 0 x2).bind fun v102 =>
some (v102, w43))
else
none)))))
set_option maxHeartbeats 4000000 in
set_option maxRecDepth 100000 in
theorem jnX12_made__m_32 {X : xX} {σ : St} {x0 : Nat} {x1 : Int32} {x2 : Int32} {x3 : Int32} {t0 : Int32} {t1 : Nat}  {c : (Int32 × St)} (C : Ok X cX12_made_ 4 RX12 rmX12_made_ (some .int)) (hf : fJX12_made__m_32 σ x0 x1 x2 x3 t0 t1 = some c) (hE : ∀ r, c = r → xE1 X (some (.int r.1)) r.2) : V X (0, 0) σ 32 [(0, .ref (x0)), (1, .int (x1)), (2, .int (x2)), (3, .int (x3))] [.int (t0), .ref (t1)] := by
  unfold fJX12_made__m_32 at hf
  refine x_iconst C dX12_made__32 33 rfl 1 (by decide) ?_
  obtain ⟨o33, ho33, hf⟩ := x_bind hf
  obtain ⟨w33, hw33, hf⟩ := x_bind hf
  refine x_callVi C dX12_made__33 36 rfl ho33 cl11.1 rfl (cX12_rightc hw33) kX12_right kvX12_right w1648 ⟨rfl, rfl⟩ ⟨Nat.le_of_ble_eq_true rfl, Nat.le_of_ble_eq_true rfl⟩ ⟨Nat.zero_le _, Nat.zero_le _⟩ rfl rfl (Nat.le_of_ble_eq_true rfl) ?_
  refine x_if_ne C dX12_made__36 41 (by decide) 39 rfl (fun hc => ?_) (fun hc => ?_)
  · have hf := (if_neg hc).symm.trans hf
    refine x_aload_n C dX12_made__41 42 rfl 0 rfl rfl ?_
    refine x_iload_n C dX12_made__42 43 rfl 1 rfl rfl ?_
    obtain ⟨o43, ho43, hf⟩ := x_bind hf
    obtain ⟨w43, hw43, hf⟩ := x_bind hf
    refine x_callVv C dX12_made__43 46 rfl ho43 cl11.1 rfl (cX12_laysDrawingc hw43) kX12_laysDrawing kvX12_laysDrawing w1984 ⟨rfl, rfl⟩ ⟨Nat.le_of_ble_eq_true rfl, Nat.le_of_ble_eq_true rfl⟩ ⟨Nat.zero_le _, Nat.zero_le _⟩ rfl rfl (Nat.le_of_ble_eq_true rfl) ?_
    refine x_iload_n C dX12_made__46 47 rfl 3 rfl rfl ?_
    by_cases hc : x3.toInt < 0 ∨ 3 < x3.toInt
    · have hf := (if_pos hc).symm.trans hf
      refine x_tableOut C dX12_made__47 hc 104 (by decide) ?_
      refine x_aload_n C dX12_made__104 105 rfl 0 rfl rfl ?_
      obtain ⟨v105, hv105, hf⟩ := x_bind hf
      refine x_getR C dX12_made__105 108 rfl hv105 cl11 rfl w1494 ?_
      refine x_iload_n C dX12_made__108 109 rfl 2 rfl rfl ?_
      obtain ⟨v109, hv109, hf⟩ := x_bind hf
      refine x_iaload C dX12_made__109 110 rfl hv109 ?_
      exact x_iret C (hE _ (Option.some.inj hf).symm) dX12_made__110
    · have hf := (if_neg hc).symm.trans hf
      by_cases hj0 : x3 = 0
      · have hf := (if_pos hj0).symm.trans hf
        refine x_topi hj0 ?_
        refine x_tableIn C dX12_made__47 (by decide) (by decide) (off := 29) (by decide) 76 (by decide) ?_
        refine x_aload_n C dX12_made__76 77 rfl 0 rfl rfl ?_
        refine x_iload_n C dX12_made__77 78 rfl 1 rfl rfl ?_
        refine x_iload_n C dX12_made__78 79 rfl 2 rfl rfl ?_
        obtain ⟨o79, ho79, hf⟩ := x_bind hf
        obtain ⟨w79, hw79, hf⟩ := x_bind hf
        refine x_callVi C dX12_made__79 82 rfl ho79 cl11.1 rfl (cX12_whereOfc hw79) kX12_whereOf kvX12_whereOf w2000 ⟨rfl, rfl⟩ ⟨Nat.le_of_ble_eq_true rfl, Nat.le_of_ble_eq_true rfl⟩ ⟨Nat.zero_le _, Nat.zero_le _⟩ rfl rfl (Nat.le_of_ble_eq_true rfl) ?_
        exact x_iret C (hE _ (Option.some.inj hf).symm) dX12_made__82
      · have hf := (if_neg hj0).symm.trans hf
        by_cases hj1 : x3 = 1
        · have hf := (if_pos hj1).symm.trans hf
          refine x_topi hj1 ?_
          refine x_tableIn C dX12_made__47 (by decide) (by decide) (off := 36) (by decide) 83 (by decide) ?_
          refine x_aload_n C dX12_made__83 84 rfl 0 rfl rfl ?_
          refine x_iload_n C dX12_made__84 85 rfl 1 rfl rfl ?_
          refine x_iload_n C dX12_made__85 86 rfl 2 rfl rfl ?_
          obtain ⟨o86, ho86, hf⟩ := x_bind hf
          obtain ⟨w86, hw86, hf⟩ := x_bind hf
          refine x_callVi C dX12_made__86 89 rfl ho86 cl11.1 rfl (cX12_ruleOfc hw86) kX12_ruleOf kvX12_ruleOf w2005 ⟨rfl, rfl⟩ ⟨Nat.le_of_ble_eq_true rfl, Nat.le_of_ble_eq_true rfl⟩ ⟨Nat.zero_le _, Nat.zero_le _⟩ rfl rfl (Nat.le_of_ble_eq_true rfl) ?_
          exact x_iret C (hE _ (Option.some.inj hf).symm) dX12_made__89
        · have hf := (if_neg hj1).symm.trans hf
          by_cases hj2 : x3 = 2
          · have hf := (if_pos hj2).symm.trans hf
            refine x_topi hj2 ?_
            refine x_tableIn C dX12_made__47 (by decide) (by decide) (off := 43) (by decide) 90 (by decide) ?_
            refine x_aload_n C dX12_made__90 91 rfl 0 rfl rfl ?_
            obtain ⟨v91, hv91, hf⟩ := x_bind hf
            refine x_getR C dX12_made__91 94 rfl hv91 cl11 rfl w1492 ?_
            refine x_iload_n C dX12_made__94 95 rfl 2 rfl rfl ?_
            obtain ⟨v95, hv95, hf⟩ := x_bind hf
            refine x_iaload C dX12_made__95 96 rfl hv95 ?_
            exact x_iret C (hE _ (Option.some.inj hf).symm) dX12_made__96
          · have hf := (if_neg hj2).symm.trans hf
            by_cases hj3 : x3 = 3
            · have hf := (if_pos hj3).symm.trans hf
              refine x_topi hj3 ?_
              refine x_tableIn C dX12_made__47 (by decide) (by decide) (off := 50) (by decide) 97 (by decide) ?_
              refine x_aload_n C dX12_made__97 98 rfl 0 rfl rfl ?_
              obtain ⟨v98, hv98, hf⟩ := x_bind hf
              refine x_getR C dX12_made__98 101 rfl hv98 cl11 rfl w1493 ?_
              refine x_iload_n C dX12_made__101 102 rfl 2 rfl rfl ?_
              obtain ⟨v102, hv102, hf⟩ := x_bind hf
              refine x_iaload C dX12_made__102 103 rfl hv102 ?_
              exact x_iret C (hE _ (Option.some.inj hf).symm) dX12_made__103
            · have hf := (if_neg hj3).symm.trans hf
              cases hf
  · have hf := (if_pos hc).symm.trans hf
    refine x_iconst C dX12_made__39 40 rfl 0 (by decide) ?_
    exact x_iret C (hE _ (Option.some.inj hf).symm) dX12_made__40
noncomputable def fJX12_made__m_31 (σ : St) (x0 : Nat) (x1 : Int32) (x2 : Int32) (x3 : Int32) (t0 : Nat) : Option ((Int32 × St)) :=
fJX12_made__m_32 σ x0 x1 x2 x3 0 t0
set_option maxHeartbeats 4000000 in
set_option maxRecDepth 100000 in
theorem jnX12_made__m_31 {X : xX} {σ : St} {x0 : Nat} {x1 : Int32} {x2 : Int32} {x3 : Int32} {t0 : Nat}  {c : (Int32 × St)} (C : Ok X cX12_made_ 4 RX12 rmX12_made_ (some .int)) (hf : fJX12_made__m_31 σ x0 x1 x2 x3 t0 = some c) (hE : ∀ r, c = r → xE1 X (some (.int r.1)) r.2) : V X (0, 0) σ 31 [(0, .ref (x0)), (1, .int (x1)), (2, .int (x2)), (3, .int (x3))] [.ref (t0)] := by
  unfold fJX12_made__m_31 at hf
  refine x_iconst C dX12_made__31 32 rfl 0 (by decide) ?_
  exact jnX12_made__m_32 C hf hE
noncomputable def fX12_made_ (σ : St) (x0 : Nat) (x1 : Int32) (x2 : Int32) (x3 : Int32) : Option ((Int32 × St)) :=
(wrF σ x0 11 0 (.int (0))).bind fun σ2 =>
(isO σ2 x0 11).bind fun _ =>
(fX12_isMade σ2 x0 x1 x2).bind fun w9 =>
if w9 = 0 then
(fJX12_made__m_31 σ2 x0 x1 x2 x3 x0)
else
((fX12_isIn x3.toInt64 0 4).bind fun w21 =>
if w21 = 0 then
(fJX12_made__m_31 σ2 x0 x1 x2 x3 x0)
else
(fJX12_made__m_32 σ2 x0 x1 x2 x3 1 x0))
set_option maxHeartbeats 4000000 in
set_option maxRecDepth 100000 in
theorem cX12_made_c {l : Launch} {G : xG} {A : Nat → Prop} {σ : St} {x0 : Nat} {x1 : Int32} {x2 : Int32} {x3 : Int32} {c : (Int32 × St)} (hf : fX12_made_ σ x0 x1 x2 x3 = some c) : Con l yX12_made_ (xws yX12_made_ cX12_made_ 4 (some .int)) rmX12_made_ [.ref (x0), .int (x1), .int (x2), .int (x3)] G A σ (some (.int c.1)) c.2 := by
  refine x_start rfl (Nat.le_of_ble_eq_true rfl) (fun X _ _ _ C hE0 => ?_)
  have hE : ∀ r, c = r → xE1 X (some (.int r.1)) r.2 := fun r e => e ▸ hE0
  show V X (0, 0) σ 0 [(0, .ref (x0)), (1, .int (x1)), (2, .int (x2)), (3, .int (x3))] []
  unfold fX12_made_ at hf
  refine x_aload_n C dX12_made__0 1 rfl 0 rfl rfl ?_
  refine x_iconst C dX12_made__1 2 rfl 0 (by decide) ?_
  obtain ⟨σ2, hσ2, hf⟩ := x_bind hf
  refine x_putX C dX12_made__2 5 rfl hσ2 cl11 rfl w1443 rfl rfl rfl ?_
  refine x_aload_n C dX12_made__5 6 rfl 0 rfl rfl ?_
  refine x_aload_n C dX12_made__6 7 rfl 0 rfl rfl ?_
  refine x_iload_n C dX12_made__7 8 rfl 1 rfl rfl ?_
  refine x_iload_n C dX12_made__8 9 rfl 2 rfl rfl ?_
  obtain ⟨o9, ho9, hf⟩ := x_bind hf
  obtain ⟨w9, hw9, hf⟩ := x_bind hf
  refine x_callVi C dX12_made__9 12 rfl ho9 cl11.1 rfl (cX12_isMadec hw9) kX12_isMade kvX12_isMade w2113 ⟨rfl, rfl⟩ ⟨Nat.le_of_ble_eq_true rfl, Nat.le_of_ble_eq_true rfl⟩ ⟨Nat.zero_le _, Nat.zero_le _⟩ rfl rfl (Nat.le_of_ble_eq_true rfl) ?_
  refine x_if_eq C dX12_made__12 31 (by decide) 15 rfl (fun hc => ?_) (fun hc => ?_)
  · have hf := (if_pos hc).symm.trans hf
    exact jnX12_made__m_31 C hf hE
  · have hf := (if_neg hc).symm.trans hf
    refine x_iload_n C dX12_made__15 16 rfl 3 rfl rfl ?_
    refine x_i2l C dX12_made__16 17 rfl ?_
    refine x_lconst C dX12_made__17 18 rfl 0 (by decide) ?_
    refine x_ldc2 C dX12_made__18 21 rfl w1883 ?_
    obtain ⟨w21, hw21, hf⟩ := x_bind hf
    refine x_callSi C dX12_made__21 24 rfl (cX12_isInc hw21) kX12_isIn ksX12_isIn w1645 ⟨rfl, rfl⟩ ⟨Nat.le_of_ble_eq_true rfl, Nat.le_of_ble_eq_true rfl⟩ ⟨Nat.zero_le _, Nat.zero_le _⟩ rfl rfl (Nat.le_of_ble_eq_true rfl) ?_
    refine x_if_eq C dX12_made__24 31 (by decide) 27 rfl (fun hc => ?_) (fun hc => ?_)
    · have hf := (if_pos hc).symm.trans hf
      exact jnX12_made__m_31 C hf hE
    · have hf := (if_neg hc).symm.trans hf
      refine x_iconst C dX12_made__27 28 rfl 1 (by decide) ?_
      refine x_goto C dX12_made__28 32 (by decide) ?_
      exact jnX12_made__m_32 C hf hE
