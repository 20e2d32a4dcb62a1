/-! methods that may throw: X11_needBytes X11_overlap X11_run X11_side X11_step X11_take X11_tell X11_word -/
theorem dX11_needBytes_0 : decode cX11_needBytes 0 = .ok (.iload_n 1, 1) := by decide +kernel
theorem dX11_needBytes_1 : decode cX11_needBytes 1 = .ok (.ifCond .lt 11, 3) := by decide +kernel
theorem dX11_needBytes_4 : decode cX11_needBytes 4 = .ok (.iload_n 1, 1) := by decide +kernel
theorem dX11_needBytes_5 : decode cX11_needBytes 5 = .ok (.aload_n 0, 1) := by decide +kernel
theorem dX11_needBytes_6 : decode cX11_needBytes 6 = .ok (.getfield 13, 3) := by decide +kernel
theorem dX11_needBytes_9 : decode cX11_needBytes 9 = .ok (.if_icmp .le 14, 3) := by decide +kernel
theorem dX11_needBytes_12 : decode cX11_needBytes 12 = .ok (.new 207, 3) := by decide +kernel
theorem dX11_needBytes_15 : decode cX11_needBytes 15 = .ok (.dup, 1) := by decide +kernel
theorem dX11_needBytes_16 : decode cX11_needBytes 16 = .ok (.ldc_w 404, 3) := by decide +kernel
theorem dX11_needBytes_19 : decode cX11_needBytes 19 = .ok (.invokespecial 211, 3) := by decide +kernel
theorem dX11_needBytes_22 : decode cX11_needBytes 22 = .ok (.athrow, 1) := by decide +kernel
theorem dX11_needBytes_23 : decode cX11_needBytes 23 = .ok (.return_, 1) := by decide +kernel
abbrev rmX11_needBytes : Room := { frames := 7, cells := 1, slots := 6, locals := 120 }
noncomputable def fX11_needBytes (σ : St) (x0 : Nat) (x1 : Int32) : Option ((Unit ⊕ String) × St) :=
if x1 < 0 then
(some (Sum.inr xIAE, σ))
else
((gI σ x0 10 1).bind fun v6 =>
if x1 ≤ v6 then
(some (Sum.inl (), σ))
else
(some (Sum.inr xIAE, σ)))
set_option maxHeartbeats 4000000 in
set_option maxRecDepth 100000 in
theorem cX11_needBytesc {l : Launch} (hst : l.stackTraces = false) {adK adV : Nat → Nat} {G : xG} {A : Nat → Prop} {σ : St} {x0 : Nat} {x1 : Int32} {c : (Unit ⊕ String) × St} (hf : fX11_needBytes σ x0 x1 = some c) : ConX l yX11_needBytes (xws yX11_needBytes cX11_needBytes 2 none) rmX11_needBytes 1 6 [.ref (x0), .int (x1)] adK adV G A σ (xoV c.1) c.2 := by
  refine z_start hst rfl (Nat.le_of_ble_eq_true rfl) (fun X _ _ _ C O hE0 => ?_)
  have hE : ∀ r, c = r → zE X 1 6 (xoV r.1) r.2 := fun r e => e ▸ hE0
  show Vz X (0, 0) σ 0 [(0, .ref (x0)), (1, .int (x1))] []
  unfold fX11_needBytes at hf
  refine z_iload_n C dX11_needBytes_0 1 rfl 1 rfl rfl ?_
  refine z_if_lt C dX11_needBytes_1 12 (by decide) 4 rfl (fun hc => ?_) (fun hc => ?_)
  · have hf := (if_pos hc).symm.trans hf
    exact z_throwSW C O fitIAE w767 w143 hatIAE goodIAE (List.mem_of_getElem? (i := 6) rfl) dX11_needBytes_12 dX11_needBytes_15 dX11_needBytes_16 dX11_needBytes_19 dX11_needBytes_22 ⟨Nat.le_of_ble_eq_true rfl, Nat.le_of_ble_eq_true rfl⟩ ⟨Nat.le_of_ble_eq_true rfl, Nat.le_of_ble_eq_true rfl⟩ ⟨Nat.le_of_ble_eq_true rfl, Nat.le_of_ble_eq_true rfl⟩ (hE _ (Option.some.inj hf).symm)
  · have hf := (if_neg hc).symm.trans hf
    refine z_iload_n C dX11_needBytes_4 5 rfl 1 rfl rfl ?_
    refine z_aload_n C dX11_needBytes_5 6 rfl 0 rfl rfl ?_
    obtain ⟨v6, hv6, hf⟩ := x_bind hf
    refine z_getI C dX11_needBytes_6 9 rfl hv6 cl10 rfl w516 ?_
    refine z_icmp_le C dX11_needBytes_9 23 (by decide) 12 rfl (fun hc => ?_) (fun hc => ?_)
    · have hf := (if_pos hc).symm.trans hf
      exact z_vret C (hE _ (Option.some.inj hf).symm) ⟨Nat.le_of_ble_eq_true rfl, Nat.le_of_ble_eq_true rfl⟩ dX11_needBytes_23
    · have hf := (if_neg hc).symm.trans hf
      exact z_throwSW C O fitIAE w767 w143 hatIAE goodIAE (List.mem_of_getElem? (i := 6) rfl) dX11_needBytes_12 dX11_needBytes_15 dX11_needBytes_16 dX11_needBytes_19 dX11_needBytes_22 ⟨Nat.le_of_ble_eq_true rfl, Nat.le_of_ble_eq_true rfl⟩ ⟨Nat.le_of_ble_eq_true rfl, Nat.le_of_ble_eq_true rfl⟩ ⟨Nat.le_of_ble_eq_true rfl, Nat.le_of_ble_eq_true rfl⟩ (hE _ (Option.some.inj hf).symm)
theorem dX11_overlap_0 : decode cX11_overlap 0 = .ok (.iload_n 2, 1) := by decide +kernel
theorem dX11_overlap_1 : decode cX11_overlap 1 = .ok (.iconst 4, 1) := by decide +kernel
theorem dX11_overlap_2 : decode cX11_overlap 2 = .ok (.invokestatic 194, 3) := by decide +kernel
theorem dX11_overlap_5 : decode cX11_overlap 5 = .ok (.aload_n 0, 1) := by decide +kernel
theorem dX11_overlap_6 : decode cX11_overlap 6 = .ok (.getfield 68, 3) := by decide +kernel
theorem dX11_overlap_9 : decode cX11_overlap 9 = .ok (.invokevirtual 155, 3) := by decide +kernel
theorem dX11_overlap_12 : decode cX11_overlap 12 = .ok (.iload_n 1, 1) := by decide +kernel
theorem dX11_overlap_13 : decode cX11_overlap 13 = .ok (.aload_n 0, 1) := by decide +kernel
theorem dX11_overlap_14 : decode cX11_overlap 14 = .ok (.getfield 68, 3) := by decide +kernel
theorem dX11_overlap_17 : decode cX11_overlap 17 = .ok (.getfield 158, 3) := by decide +kernel
theorem dX11_overlap_20 : decode cX11_overlap 20 = .ok (.invokestatic 297, 3) := by decide +kernel
theorem dX11_overlap_23 : decode cX11_overlap 23 = .ok (.iload_n 2, 1) := by decide +kernel
theorem dX11_overlap_24 : decode cX11_overlap 24 = .ok (.tableswitch 72 0 3 #[32, 41, 50, 59], 32) := by decide +kernel
theorem dX11_overlap_56 : decode cX11_overlap 56 = .ok (.aload_n 0, 1) := by decide +kernel
theorem dX11_overlap_57 : decode cX11_overlap 57 = .ok (.getfield 68, 3) := by decide +kernel
theorem dX11_overlap_60 : decode cX11_overlap 60 = .ok (.iload_n 1, 1) := by decide +kernel
theorem dX11_overlap_61 : decode cX11_overlap 61 = .ok (.invokevirtual 313, 3) := by decide +kernel
theorem dX11_overlap_64 : decode cX11_overlap 64 = .ok (.ireturn, 1) := by decide +kernel
theorem dX11_overlap_65 : decode cX11_overlap 65 = .ok (.aload_n 0, 1) := by decide +kernel
theorem dX11_overlap_66 : decode cX11_overlap 66 = .ok (.getfield 68, 3) := by decide +kernel
theorem dX11_overlap_69 : decode cX11_overlap 69 = .ok (.iload_n 1, 1) := by decide +kernel
theorem dX11_overlap_70 : decode cX11_overlap 70 = .ok (.invokevirtual 316, 3) := by decide +kernel
theorem dX11_overlap_73 : decode cX11_overlap 73 = .ok (.ireturn, 1) := by decide +kernel
theorem dX11_overlap_74 : decode cX11_overlap 74 = .ok (.aload_n 0, 1) := by decide +kernel
theorem dX11_overlap_75 : decode cX11_overlap 75 = .ok (.getfield 68, 3) := by decide +kernel
theorem dX11_overlap_78 : decode cX11_overlap 78 = .ok (.iload_n 1, 1) := by decide +kernel
theorem dX11_overlap_79 : decode cX11_overlap 79 = .ok (.invokevirtual 319, 3) := by decide +kernel
theorem dX11_overlap_82 : decode cX11_overlap 82 = .ok (.ireturn, 1) := by decide +kernel
theorem dX11_overlap_83 : decode cX11_overlap 83 = .ok (.aload_n 0, 1) := by decide +kernel
theorem dX11_overlap_84 : decode cX11_overlap 84 = .ok (.getfield 68, 3) := by decide +kernel
theorem dX11_overlap_87 : decode cX11_overlap 87 = .ok (.getfield 322, 3) := by decide +kernel
theorem dX11_overlap_90 : decode cX11_overlap 90 = .ok (.iload_n 1, 1) := by decide +kernel
theorem dX11_overlap_91 : decode cX11_overlap 91 = .ok (.laload, 1) := by decide +kernel
theorem dX11_overlap_92 : decode cX11_overlap 92 = .ok (.invokestatic 239, 3) := by decide +kernel
theorem dX11_overlap_95 : decode cX11_overlap 95 = .ok (.ireturn, 1) := by decide +kernel
theorem dX11_overlap_96 : decode cX11_overlap 96 = .ok (.aload_n 0, 1) := by decide +kernel
theorem dX11_overlap_97 : decode cX11_overlap 97 = .ok (.getfield 68, 3) := by decide +kernel
theorem dX11_overlap_100 : decode cX11_overlap 100 = .ok (.iload_n 1, 1) := by decide +kernel
theorem dX11_overlap_101 : decode cX11_overlap 101 = .ok (.invokevirtual 323, 3) := by decide +kernel
theorem dX11_overlap_104 : decode cX11_overlap 104 = .ok (.ifCond .eq 7, 3) := by decide +kernel
theorem dX11_overlap_107 : decode cX11_overlap 107 = .ok (.iconst 1, 1) := by decide +kernel
theorem dX11_overlap_108 : decode cX11_overlap 108 = .ok (.goto 4, 3) := by decide +kernel
theorem dX11_overlap_111 : decode cX11_overlap 111 = .ok (.iconst 0, 1) := by decide +kernel
theorem dX11_overlap_112 : decode cX11_overlap 112 = .ok (.ireturn, 1) := by decide +kernel
abbrev rmX11_overlap : Room := { frames := 8, cells := 2, slots := 12, locals := 189 }
noncomputable def fX11_overlap (σ : St) (x0 : Nat) (x1 : Int32) (x2 : Int32) : Option ((Int32 ⊕ String) × St) :=
(fX11_needWhat σ x2 4).bind fun w2 =>
(match w2 with
| (Sum.inl _, σ2) =>
(gR σ2 x0 10 9).bind fun v6 =>
(isO σ2 v6 5).bind fun _ =>
(fX5_gather σ2 v6).bind fun w9 =>
(gR w9 x0 10 9).bind fun v14 =>
(gI w9 v14 5 5).bind fun v17 =>
(fX11_needBelow w9 x1 v17).bind fun w20 =>
(match w20 with
| (Sum.inl _, σ20) =>
if x2.toInt < 0 ∨ 3 < x2.toInt then
((gR σ20 x0 10 9).bind fun v97 =>
(isO σ20 v97 5).bind fun _ =>
(fX5_isClosed σ20 v97 x1).bind fun w101 =>
if w101.1 = 0 then
(some (Sum.inl 0, w101.2))
else
(some (Sum.inl 1, w101.2)))
else
(if x2 = 0 then
((gR σ20 x0 10 9).bind fun v57 =>
(isO σ20 v57 5).bind fun _ =>
(fX5_firstRule σ20 v57 x1).bind fun w61 =>
some (Sum.inl w61, σ20))
else
(if x2 = 1 then
((gR σ20 x0 10 9).bind fun v66 =>
(isO σ20 v66 5).bind fun _ =>
(fX5_secondRule σ20 v66 x1).bind fun w70 =>
some (Sum.inl w70, σ20))
else
(if x2 = 2 then
((gR σ20 x0 10 9).bind fun v75 =>
(isO σ20 v75 5).bind fun _ =>
(fX5_shift σ20 v75 x1).bind fun w79 =>
some (Sum.inl w79, σ20))
else
(if x2 = 3 then
((gR σ20 x0 10 9).bind fun v84 =>
(gR σ20 v84 5 2).bind fun v87 =>
(aL σ20 v87 x1).bind fun v91 =>
(fX10_length v91).bind fun w92 =>
some (Sum.inl w92, σ20))
else
none))))
| (Sum.inr E20, σ20) =>
some (Sum.inr E20, σ20))
| (Sum.inr E2, σ2) =>
some (Sum.inr E2, σ2))
set_option maxHeartbeats 4000000 in
set_option maxRecDepth 100000 in
theorem cX11_overlapc {l : Launch} (hst : l.stackTraces = false) {adK adV : Nat → Nat} {G : xG} {A : Nat → Prop} {σ : St} {x0 : Nat} {x1 : Int32} {x2 : Int32} {c : (Int32 ⊕ String) × St} (hf : fX11_overlap σ x0 x1 x2 = some c) : ConX l yX11_overlap (xws yX11_overlap cX11_overlap 3 (some .int)) rmX11_overlap 2 12 [.ref (x0), .int (x1), .int (x2)] adK adV G A σ (xoI c.1) c.2 := by
  refine z_start hst rfl (Nat.le_of_ble_eq_true rfl) (fun X _ _ _ C O hE0 => ?_)
  have hE : ∀ r, c = r → zE X 2 12 (xoI r.1) r.2 := fun r e => e ▸ hE0
  show Vz X (0, 0) σ 0 [(0, .ref (x0)), (1, .int (x1)), (2, .int (x2))] []
  unfold fX11_overlap at hf
  refine z_iload_n C dX11_overlap_0 1 rfl 2 rfl rfl ?_
  refine z_iconst C dX11_overlap_1 2 rfl 4 (by decide) ?_
  obtain ⟨⟨r2, σ2⟩, hw2, hf⟩ := x_bind hf
  cases r2 with
  | inl _ =>
    dsimp only at hf
    refine z_cSn C O.2.2 dX11_overlap_2 5 rfl (cX11_needWhatc O.1 hw2) kX11_needWhat ksX11_needWhat w1066 ⟨rfl, rfl⟩ ⟨Nat.le_of_ble_eq_true rfl, Nat.le_of_ble_eq_true rfl⟩ ⟨Nat.le_of_ble_eq_true rfl, Nat.le_of_ble_eq_true rfl⟩ rfl rfl (Nat.le_of_ble_eq_true rfl) (1, 6) rfl ?_
    refine z_aload_n C dX11_overlap_5 6 rfl 0 rfl rfl ?_
    obtain ⟨v6, hv6, hf⟩ := x_bind hf
    refine z_getR C dX11_overlap_6 9 rfl hv6 cl10 rfl w524 ?_
    obtain ⟨o9, ho9, hf⟩ := x_bind hf
    obtain ⟨w9, hw9, hf⟩ := x_bind hf
    refine z_callVv C dX11_overlap_9 12 rfl ho9 cl5.1 rfl (cX5_gatherc hw9) kX5_gather kvX5_gather w977 ⟨rfl, rfl⟩ ⟨Nat.le_of_ble_eq_true rfl, Nat.le_of_ble_eq_true rfl⟩ ⟨Nat.le_of_ble_eq_true rfl, Nat.le_of_ble_eq_true rfl⟩ rfl rfl (Nat.le_of_ble_eq_true rfl) ?_
    refine z_iload_n C dX11_overlap_12 13 rfl 1 rfl rfl ?_
    refine z_aload_n C dX11_overlap_13 14 rfl 0 rfl rfl ?_
    obtain ⟨v14, hv14, hf⟩ := x_bind hf
    refine z_getR C dX11_overlap_14 17 rfl hv14 cl10 rfl w524 ?_
    obtain ⟨v17, hv17, hf⟩ := x_bind hf
    refine z_getI C dX11_overlap_17 20 rfl hv17 cl5 rfl w344 ?_
    obtain ⟨⟨r20, σ20⟩, hw20, hf⟩ := x_bind hf
    cases r20 with
    | inl _ =>
      dsimp only at hf
      refine z_cSn C O.2.2 dX11_overlap_20 23 rfl (cX11_needBelowc O.1 hw20) kX11_needBelow ksX11_needBelow w1250 ⟨rfl, rfl⟩ ⟨Nat.le_of_ble_eq_true rfl, Nat.le_of_ble_eq_true rfl⟩ ⟨Nat.le_of_ble_eq_true rfl, Nat.le_of_ble_eq_true rfl⟩ rfl rfl (Nat.le_of_ble_eq_true rfl) (2, 12) rfl ?_
      refine z_iload_n C dX11_overlap_23 24 rfl 2 rfl rfl ?_
      by_cases hc : x2.toInt < 0 ∨ 3 < x2.toInt
      · have hf := (if_pos hc).symm.trans hf
        refine z_tableOut C dX11_overlap_24 hc 96 (by decide) ?_
        refine z_aload_n C dX11_overlap_96 97 rfl 0 rfl rfl ?_
        obtain ⟨v97, hv97, hf⟩ := x_bind hf
        refine z_getR C dX11_overlap_97 100 rfl hv97 cl10 rfl w524 ?_
        refine z_iload_n C dX11_overlap_100 101 rfl 1 rfl rfl ?_
        obtain ⟨o101, ho101, hf⟩ := x_bind hf
        obtain ⟨w101, hw101, hf⟩ := x_bind hf
        refine z_callVi C dX11_overlap_101 104 rfl ho101 cl5.1 rfl (cX5_isClosedc hw101) kX5_isClosed kvX5_isClosed w1297 ⟨rfl, rfl⟩ ⟨Nat.le_of_ble_eq_true rfl, Nat.le_of_ble_eq_true rfl⟩ ⟨Nat.le_of_ble_eq_true rfl, Nat.le_of_ble_eq_true rfl⟩ rfl rfl (Nat.le_of_ble_eq_true rfl) ?_
        refine z_if_eq C dX11_overlap_104 111 (by decide) 107 rfl (fun hc => ?_) (fun hc => ?_)
        · have hf := (if_pos hc).symm.trans hf
          refine z_iconst C dX11_overlap_111 112 rfl 0 (by decide) ?_
          exact z_iret C (hE _ (Option.some.inj hf).symm) ⟨Nat.le_of_ble_eq_true rfl, Nat.le_of_ble_eq_true rfl⟩ dX11_overlap_112
        · have hf := (if_neg hc).symm.trans hf
          refine z_iconst C dX11_overlap_107 108 rfl 1 (by decide) ?_
          refine z_goto C dX11_overlap_108 112 (by decide) ?_
          exact z_iret C (hE _ (Option.some.inj hf).symm) ⟨Nat.le_of_ble_eq_true rfl, Nat.le_of_ble_eq_true rfl⟩ dX11_overlap_112
      · have hf := (if_neg hc).symm.trans hf
        by_cases hj0 : x2 = 0
        · have hf := (if_pos hj0).symm.trans hf
          refine z_topi hj0 ?_
          refine z_tableIn C dX11_overlap_24 (by decide) (by decide) (off := 32) (by decide) 56 (by decide) ?_
          refine z_aload_n C dX11_overlap_56 57 rfl 0 rfl rfl ?_
          obtain ⟨v57, hv57, hf⟩ := x_bind hf
          refine z_getR C dX11_overlap_57 60 rfl hv57 cl10 rfl w524 ?_
          refine z_iload_n C dX11_overlap_60 61 rfl 1 rfl rfl ?_
          obtain ⟨o61, ho61, hf⟩ := x_bind hf
          obtain ⟨w61, hw61, hf⟩ := x_bind hf
          refine z_callVi C dX11_overlap_61 64 rfl ho61 cl5.1 rfl (cX5_firstRulec hw61) kX5_firstRule kvX5_firstRule w1294 ⟨rfl, rfl⟩ ⟨Nat.le_of_ble_eq_true rfl, Nat.le_of_ble_eq_true rfl⟩ ⟨Nat.le_of_ble_eq_true rfl, Nat.le_of_ble_eq_true rfl⟩ rfl rfl (Nat.le_of_ble_eq_true rfl) ?_
          exact z_iret C (hE _ (Option.some.inj hf).symm) ⟨Nat.le_of_ble_eq_true rfl, Nat.le_of_ble_eq_true rfl⟩ dX11_overlap_64
        · have hf := (if_neg hj0).symm.trans hf
          by_cases hj1 : x2 = 1
          · have hf := (if_pos hj1).symm.trans hf
            refine z_topi hj1 ?_
            refine z_tableIn C dX11_overlap_24 (by decide) (by decide) (off := 41) (by decide) 65 (by decide) ?_
            refine z_aload_n C dX11_overlap_65 66 rfl 0 rfl rfl ?_
            obtain ⟨v66, hv66, hf⟩ := x_bind hf
            refine z_getR C dX11_overlap_66 69 rfl hv66 cl10 rfl w524 ?_
            refine z_iload_n C dX11_overlap_69 70 rfl 1 rfl rfl ?_
            obtain ⟨o70, ho70, hf⟩ := x_bind hf
            obtain ⟨w70, hw70, hf⟩ := x_bind hf
            refine z_callVi C dX11_overlap_70 73 rfl ho70 cl5.1 rfl (cX5_secondRulec hw70) kX5_secondRule kvX5_secondRule w1295 ⟨rfl, rfl⟩ ⟨Nat.le_of_ble_eq_true rfl, Nat.le_of_ble_eq_true rfl⟩ ⟨Nat.le_of_ble_eq_true rfl, Nat.le_of_ble_eq_true rfl⟩ rfl rfl (Nat.le_of_ble_eq_true rfl) ?_
            exact z_iret C (hE _ (Option.some.inj hf).symm) ⟨Nat.le_of_ble_eq_true rfl, Nat.le_of_ble_eq_true rfl⟩ dX11_overlap_73
          · have hf := (if_neg hj1).symm.trans hf
            by_cases hj2 : x2 = 2
            · have hf := (if_pos hj2).symm.trans hf
              refine z_topi hj2 ?_
              refine z_tableIn C dX11_overlap_24 (by decide) (by decide) (off := 50) (by decide) 74 (by decide) ?_
              refine z_aload_n C dX11_overlap_74 75 rfl 0 rfl rfl ?_
              obtain ⟨v75, hv75, hf⟩ := x_bind hf
              refine z_getR C dX11_overlap_75 78 rfl hv75 cl10 rfl w524 ?_
              refine z_iload_n C dX11_overlap_78 79 rfl 1 rfl rfl ?_
              obtain ⟨o79, ho79, hf⟩ := x_bind hf
              obtain ⟨w79, hw79, hf⟩ := x_bind hf
              refine z_callVi C dX11_overlap_79 82 rfl ho79 cl5.1 rfl (cX5_shiftc hw79) kX5_shift kvX5_shift w1296 ⟨rfl, rfl⟩ ⟨Nat.le_of_ble_eq_true rfl, Nat.le_of_ble_eq_true rfl⟩ ⟨Nat.le_of_ble_eq_true rfl, Nat.le_of_ble_eq_true rfl⟩ rfl rfl (Nat.le_of_ble_eq_true rfl) ?_
              exact z_iret C (hE _ (Option.some.inj hf).symm) ⟨Nat.le_of_ble_eq_true rfl, Nat.le_of_ble_eq_true rfl⟩ dX11_overlap_82
            · have hf := (if_neg hj2).symm.trans hf
              by_cases hj3 : x2 = 3
              · have hf := (if_pos hj3).symm.trans hf
                refine z_topi hj3 ?_
                refine z_tableIn C dX11_overlap_24 (by decide) (by decide) (off := 59) (by decide) 83 (by decide) ?_
                refine z_aload_n C dX11_overlap_83 84 rfl 0 rfl rfl ?_
                obtain ⟨v84, hv84, hf⟩ := x_bind hf
                refine z_getR C dX11_overlap_84 87 rfl hv84 cl10 rfl w524 ?_
                obtain ⟨v87, hv87, hf⟩ := x_bind hf
                refine z_getR C dX11_overlap_87 90 rfl hv87 cl5 rfl w340 ?_
                refine z_iload_n C dX11_overlap_90 91 rfl 1 rfl rfl ?_
                obtain ⟨v91, hv91, hf⟩ := x_bind hf
                refine z_laload C dX11_overlap_91 92 rfl hv91 ?_
                obtain ⟨w92, hw92, hf⟩ := x_bind hf
                refine z_callSi C dX11_overlap_92 95 rfl (cX10_lengthc hw92) kX10_length ksX10_length w724 ⟨rfl, rfl⟩ ⟨Nat.le_of_ble_eq_true rfl, Nat.le_of_ble_eq_true rfl⟩ ⟨Nat.le_of_ble_eq_true rfl, Nat.le_of_ble_eq_true rfl⟩ rfl rfl (Nat.le_of_ble_eq_true rfl) ?_
                exact z_iret C (hE _ (Option.some.inj hf).symm) ⟨Nat.le_of_ble_eq_true rfl, Nat.le_of_ble_eq_true rfl⟩ dX11_overlap_95
              · have hf := (if_neg hj3).symm.trans hf
                cases hf
    | inr E20 =>
      dsimp only at hf
      exact z_cSt C O dX11_overlap_20 (cX11_needBelowc O.1 hw20) kX11_needBelow ksX11_needBelow w1250 ⟨rfl, rfl⟩ ⟨Nat.le_of_ble_eq_true rfl, Nat.le_of_ble_eq_true rfl⟩ ⟨Nat.le_of_ble_eq_true rfl, Nat.le_of_ble_eq_true rfl⟩ rfl rfl (Nat.le_of_ble_eq_true rfl) ⟨Nat.le_of_ble_eq_true rfl, Nat.le_of_ble_eq_true rfl⟩ (hE _ (Option.some.inj hf).symm)
  | inr E2 =>
    dsimp only at hf
    exact z_cSt C O dX11_overlap_2 (cX11_needWhatc O.1 hw2) kX11_needWhat ksX11_needWhat w1066 ⟨rfl, rfl⟩ ⟨Nat.le_of_ble_eq_true rfl, Nat.le_of_ble_eq_true rfl⟩ ⟨Nat.le_of_ble_eq_true rfl, Nat.le_of_ble_eq_true rfl⟩ rfl rfl (Nat.le_of_ble_eq_true rfl) ⟨Nat.le_of_ble_eq_true rfl, Nat.le_of_ble_eq_true rfl⟩ (hE _ (Option.some.inj hf).symm)
theorem dX11_run_0 : decode cX11_run 0 = .ok (.iload_n 1, 1) := by decide +kernel
theorem dX11_run_1 : decode cX11_run 1 = .ok (.invokestatic 229, 3) := by decide +kernel
theorem dX11_run_4 : decode cX11_run 4 = .ok (.iload_n 3, 1) := by decide +kernel
theorem dX11_run_5 : decode cX11_run 5 = .ok (.iconst 2, 1) := by decide +kernel
theorem dX11_run_6 : decode cX11_run 6 = .ok (.invokestatic 194, 3) := by decide +kernel
theorem dX11_run_9 : decode cX11_run 9 = .ok (.iload_n 2, 1) := by decide +kernel
theorem dX11_run_10 : decode cX11_run 10 = .ok (.invokestatic 283, 3) := by decide +kernel
theorem dX11_run_13 : decode cX11_run 13 = .ok (.aload_n 0, 1) := by decide +kernel
theorem dX11_run_14 : decode cX11_run 14 = .ok (.getfield 59, 3) := by decide +kernel
theorem dX11_run_17 : decode cX11_run 17 = .ok (.aload_n 0, 1) := by decide +kernel
theorem dX11_run_18 : decode cX11_run 18 = .ok (.getfield 23, 3) := by decide +kernel
theorem dX11_run_21 : decode cX11_run 21 = .ok (.getfield 232, 3) := by decide +kernel
theorem dX11_run_24 : decode cX11_run 24 = .ok (.iload_n 1, 1) := by decide +kernel
theorem dX11_run_25 : decode cX11_run 25 = .ok (.laload, 1) := by decide +kernel
theorem dX11_run_26 : decode cX11_run 26 = .ok (.iload_n 2, 1) := by decide +kernel
theorem dX11_run_27 : decode cX11_run 27 = .ok (.invokevirtual 286, 3) := by decide +kernel
theorem dX11_run_30 : decode cX11_run 30 = .ok (.lstore 4, 2) := by decide +kernel
theorem dX11_run_32 : decode cX11_run 32 = .ok (.iload_n 3, 1) := by decide +kernel
theorem dX11_run_33 : decode cX11_run 33 = .ok (.ifCond .ne 11, 3) := by decide +kernel
theorem dX11_run_36 : decode cX11_run 36 = .ok (.aload_n 0, 1) := by decide +kernel
theorem dX11_run_37 : decode cX11_run 37 = .ok (.getfield 59, 3) := by decide +kernel
theorem dX11_run_40 : decode cX11_run 40 = .ok (.getfield 289, 3) := by decide +kernel
theorem dX11_run_43 : decode cX11_run 43 = .ok (.ireturn, 1) := by decide +kernel
theorem dX11_run_44 : decode cX11_run 44 = .ok (.iload_n 3, 1) := by decide +kernel
theorem dX11_run_45 : decode cX11_run 45 = .ok (.iconst 1, 1) := by decide +kernel
theorem dX11_run_46 : decode cX11_run 46 = .ok (.if_icmp .ne 13, 3) := by decide +kernel
theorem dX11_run_49 : decode cX11_run 49 = .ok (.aload_n 0, 1) := by decide +kernel
theorem dX11_run_50 : decode cX11_run 50 = .ok (.getfield 59, 3) := by decide +kernel
theorem dX11_run_53 : decode cX11_run 53 = .ok (.getfield 292, 3) := by decide +kernel
theorem dX11_run_56 : decode cX11_run 56 = .ok (.goto 8, 3) := by decide +kernel
theorem dX11_run_59 : decode cX11_run 59 = .ok (.lload 4, 2) := by decide +kernel
theorem dX11_run_61 : decode cX11_run 61 = .ok (.invokestatic 239, 3) := by decide +kernel
theorem dX11_run_64 : decode cX11_run 64 = .ok (.ireturn, 1) := by decide +kernel
abbrev rmX11_run : Room := { frames := 8, cells := 3, slots := 18, locals := 141 }
noncomputable def fX11_run (σ : St) (x0 : Nat) (x1 : Int32) (x2 : Int32) (x3 : Int32) : Option ((Int32 ⊕ String) × St) :=
(fX11_needPlace σ x1).bind fun w1 =>
(match w1 with
| (Sum.inl _, σ1) =>
(fX11_needWhat σ1 x3 2).bind fun w6 =>
(match w6 with
| (Sum.inl _, σ6) =>
(fX11_needWay σ6 x2).bind fun w10 =>
(match w10 with
| (Sum.inl _, σ10) =>
(gR σ10 x0 10 8).bind fun v14 =>
(gR σ10 x0 10 3).bind fun v18 =>
(gR σ10 v18 2 2).bind fun v21 =>
(aL σ10 v21 x1).bind fun v25 =>
(isO σ10 v14 9).bind fun _ =>
(fX9_runFrom σ10 v14 v25 x2).bind fun w27 =>
if x3 = 0 then
((gR w27.2 x0 10 8).bind fun v37 =>
(gI w27.2 v37 9 4).bind fun v40 =>
some (Sum.inl v40, w27.2))
else
(if x3 = ((1 : Int32)) then
((gR w27.2 x0 10 8).bind fun v50 =>
(gI w27.2 v50 9 3).bind fun v53 =>
some (Sum.inl v53, w27.2))
else
((fX10_length w27.1).bind fun w61 =>
some (Sum.inl w61, w27.2)))
| (Sum.inr E10, σ10) =>
some (Sum.inr E10, σ10))
| (Sum.inr E6, σ6) =>
some (Sum.inr E6, σ6))
| (Sum.inr E1, σ1) =>
some (Sum.inr E1, σ1))
set_option maxHeartbeats 4000000 in
set_option maxRecDepth 100000 in
theorem cX11_runc {l : Launch} (hst : l.stackTraces = false) {adK adV : Nat → Nat} {G : xG} {A : Nat → Prop} {σ : St} {x0 : Nat} {x1 : Int32} {x2 : Int32} {x3 : Int32} {c : (Int32 ⊕ String) × St} (hf : fX11_run σ x0 x1 x2 x3 = some c) : ConX l yX11_run (xws yX11_run cX11_run 6 (some .int)) rmX11_run 3 18 [.ref (x0), .int (x1), .int (x2), .int (x3)] adK adV G A σ (xoI c.1) c.2 := by
  refine z_start hst rfl (Nat.le_of_ble_eq_true rfl) (fun X _ _ _ C O hE0 => ?_)
  have hE : ∀ r, c = r → zE X 3 18 (xoI r.1) r.2 := fun r e => e ▸ hE0
  show Vz X (0, 0) σ 0 [(0, .ref (x0)), (1, .int (x1)), (2, .int (x2)), (3, .int (x3))] []
  unfold fX11_run at hf
  refine z_iload_n C dX11_run_0 1 rfl 1 rfl rfl ?_
  obtain ⟨⟨r1, σ1⟩, hw1, hf⟩ := x_bind hf
  cases r1 with
  | inl _ =>
    dsimp only at hf
    refine z_cSn C O.2.2 dX11_run_1 4 rfl (cX11_needPlacec O.1 hw1) kX11_needPlace ksX11_needPlace w1111 ⟨rfl, rfl⟩ ⟨Nat.le_of_ble_eq_true rfl, Nat.le_of_ble_eq_true rfl⟩ ⟨Nat.le_of_ble_eq_true rfl, Nat.le_of_ble_eq_true rfl⟩ rfl rfl (Nat.le_of_ble_eq_true rfl) (1, 6) rfl ?_
    refine z_iload_n C dX11_run_4 5 rfl 3 rfl rfl ?_
    refine z_iconst C dX11_run_5 6 rfl 2 (by decide) ?_
    obtain ⟨⟨r6, σ6⟩, hw6, hf⟩ := x_bind hf
    cases r6 with
    | inl _ =>
      dsimp only at hf
      refine z_cSn C O.2.2 dX11_run_6 9 rfl (cX11_needWhatc O.1 hw6) kX11_needWhat ksX11_needWhat w1066 ⟨rfl, rfl⟩ ⟨Nat.le_of_ble_eq_true rfl, Nat.le_of_ble_eq_true rfl⟩ ⟨Nat.le_of_ble_eq_true rfl, Nat.le_of_ble_eq_true rfl⟩ rfl rfl (Nat.le_of_ble_eq_true rfl) (2, 12) rfl ?_
      refine z_iload_n C dX11_run_9 10 rfl 2 rfl rfl ?_
      obtain ⟨⟨r10, σ10⟩, hw10, hf⟩ := x_bind hf
      cases r10 with
      | inl _ =>
        dsimp only at hf
        refine z_cSn C O.2.2 dX11_run_10 13 rfl (cX11_needWayc O.1 hw10) kX11_needWay ksX11_needWay w1232 ⟨rfl, rfl⟩ ⟨Nat.le_of_ble_eq_true rfl, Nat.le_of_ble_eq_true rfl⟩ ⟨Nat.le_of_ble_eq_true rfl, Nat.le_of_ble_eq_true rfl⟩ rfl rfl (Nat.le_of_ble_eq_true rfl) (3, 18) rfl ?_
        refine z_aload_n C dX11_run_13 14 rfl 0 rfl rfl ?_
        obtain ⟨v14, hv14, hf⟩ := x_bind hf
        refine z_getR C dX11_run_14 17 rfl hv14 cl10 rfl w523 ?_
        refine z_aload_n C dX11_run_17 18 rfl 0 rfl rfl ?_
        obtain ⟨v18, hv18, hf⟩ := x_bind hf
        refine z_getR C dX11_run_18 21 rfl hv18 cl10 rfl w518 ?_
        obtain ⟨v21, hv21, hf⟩ := x_bind hf
        refine z_getR C dX11_run_21 24 rfl hv21 cl2 rfl w241 ?_
        refine z_iload_n C dX11_run_24 25 rfl 1 rfl rfl ?_
        obtain ⟨v25, hv25, hf⟩ := x_bind hf
        refine z_laload C dX11_run_25 26 rfl hv25 ?_
        refine z_iload_n C dX11_run_26 27 rfl 2 rfl rfl ?_
        obtain ⟨o27, ho27, hf⟩ := x_bind hf
        obtain ⟨w27, hw27, hf⟩ := x_bind hf
        refine z_callVl C dX11_run_27 30 rfl ho27 cl9.1 rfl (cX9_runFromc hw27) kX9_runFrom kvX9_runFrom w655 ⟨rfl, rfl⟩ ⟨Nat.le_of_ble_eq_true rfl, Nat.le_of_ble_eq_true rfl⟩ ⟨Nat.le_of_ble_eq_true rfl, Nat.le_of_ble_eq_true rfl⟩ rfl rfl (Nat.le_of_ble_eq_true rfl) ?_
        refine z_lstore C dX11_run_30 32 rfl rfl [(4, .long (w27.1)), (0, .ref (x0)), (1, .int (x1)), (2, .int (x2)), (3, .int (x3))] rfl ?_
        refine z_iload_n C dX11_run_32 33 rfl 4 rfl rfl ?_
        refine z_if_ne C dX11_run_33 44 (by decide) 36 rfl (fun hc => ?_) (fun hc => ?_)
        · have hf := (if_neg hc).symm.trans hf
          refine z_iload_n C dX11_run_44 45 rfl 4 rfl rfl ?_
          refine z_iconst C dX11_run_45 46 rfl 1 (by decide) ?_
          refine z_icmp_ne C dX11_run_46 59 (by decide) 49 rfl (fun hc => ?_) (fun hc => ?_)
          · have hf := (if_neg hc).symm.trans hf
            refine z_lload C dX11_run_59 61 rfl 0 rfl ?_
            obtain ⟨w61, hw61, hf⟩ := x_bind hf
            refine z_callSi C dX11_run_61 64 rfl (cX10_lengthc hw61) kX10_length ksX10_length w724 ⟨rfl, rfl⟩ ⟨Nat.le_of_ble_eq_true rfl, Nat.le_of_ble_eq_true rfl⟩ ⟨Nat.le_of_ble_eq_true rfl, Nat.le_of_ble_eq_true rfl⟩ rfl rfl (Nat.le_of_ble_eq_true rfl) ?_
            exact z_iret C (hE _ (Option.some.inj hf).symm) ⟨Nat.le_of_ble_eq_true rfl, Nat.le_of_ble_eq_true rfl⟩ dX11_run_64
          · have hf := (if_pos hc).symm.trans hf
            refine z_aload_n C dX11_run_49 50 rfl 1 rfl rfl ?_
            obtain ⟨v50, hv50, hf⟩ := x_bind hf
            refine z_getR C dX11_run_50 53 rfl hv50 cl10 rfl w523 ?_
            obtain ⟨v53, hv53, hf⟩ := x_bind hf
            refine z_getI C dX11_run_53 56 rfl hv53 cl9 rfl w317 ?_
            refine z_goto C dX11_run_56 64 (by decide) ?_
            exact z_iret C (hE _ (Option.some.inj hf).symm) ⟨Nat.le_of_ble_eq_true rfl, Nat.le_of_ble_eq_true rfl⟩ dX11_run_64
        · have hf := (if_pos hc).symm.trans hf
          refine z_aload_n C dX11_run_36 37 rfl 1 rfl rfl ?_
          obtain ⟨v37, hv37, hf⟩ := x_bind hf
          refine z_getR C dX11_run_37 40 rfl hv37 cl10 rfl w523 ?_
          obtain ⟨v40, hv40, hf⟩ := x_bind hf
          refine z_getI C dX11_run_40 43 rfl hv40 cl9 rfl w319 ?_
          exact z_iret C (hE _ (Option.some.inj hf).symm) ⟨Nat.le_of_ble_eq_true rfl, Nat.le_of_ble_eq_true rfl⟩ dX11_run_43
      | inr E10 =>
        dsimp only at hf
        exact z_cSt C O dX11_run_10 (cX11_needWayc O.1 hw10) kX11_needWay ksX11_needWay w1232 ⟨rfl, rfl⟩ ⟨Nat.le_of_ble_eq_true rfl, Nat.le_of_ble_eq_true rfl⟩ ⟨Nat.le_of_ble_eq_true rfl, Nat.le_of_ble_eq_true rfl⟩ rfl rfl (Nat.le_of_ble_eq_true rfl) ⟨Nat.le_of_ble_eq_true rfl, Nat.le_of_ble_eq_true rfl⟩ (hE _ (Option.some.inj hf).symm)
    | inr E6 =>
      dsimp only at hf
      exact z_cSt C O dX11_run_6 (cX11_needWhatc O.1 hw6) kX11_needWhat ksX11_needWhat w1066 ⟨rfl, rfl⟩ ⟨Nat.le_of_ble_eq_true rfl, Nat.le_of_ble_eq_true rfl⟩ ⟨Nat.le_of_ble_eq_true rfl, Nat.le_of_ble_eq_true rfl⟩ rfl rfl (Nat.le_of_ble_eq_true rfl) ⟨Nat.le_of_ble_eq_true rfl, Nat.le_of_ble_eq_true rfl⟩ (hE _ (Option.some.inj hf).symm)
  | inr E1 =>
    dsimp only at hf
    exact z_cSt C O dX11_run_1 (cX11_needPlacec O.1 hw1) kX11_needPlace ksX11_needPlace w1111 ⟨rfl, rfl⟩ ⟨Nat.le_of_ble_eq_true rfl, Nat.le_of_ble_eq_true rfl⟩ ⟨Nat.le_of_ble_eq_true rfl, Nat.le_of_ble_eq_true rfl⟩ rfl rfl (Nat.le_of_ble_eq_true rfl) ⟨Nat.le_of_ble_eq_true rfl, Nat.le_of_ble_eq_true rfl⟩ (hE _ (Option.some.inj hf).symm)
theorem dX11_side_0 : decode cX11_side 0 = .ok (.aload_n 0, 1) := by decide +kernel
theorem dX11_side_1 : decode cX11_side 1 = .ok (.iload_n 1, 1) := by decide +kernel
theorem dX11_side_2 : decode cX11_side 2 = .ok (.invokevirtual 173, 3) := by decide +kernel
theorem dX11_side_5 : decode cX11_side 5 = .ok (.iload_n 3, 1) := by decide +kernel
theorem dX11_side_6 : decode cX11_side 6 = .ok (.invokestatic 176, 3) := by decide +kernel
theorem dX11_side_9 : decode cX11_side 9 = .ok (.iload_n 2, 1) := by decide +kernel
theorem dX11_side_10 : decode cX11_side 10 = .ok (.ifCond .eq 18, 3) := by decide +kernel
theorem dX11_side_13 : decode cX11_side 13 = .ok (.aload_n 0, 1) := by decide +kernel
theorem dX11_side_14 : decode cX11_side 14 = .ok (.getfield 23, 3) := by decide +kernel
theorem dX11_side_17 : decode cX11_side 17 = .ok (.getfield 52, 3) := by decide +kernel
theorem dX11_side_20 : decode cX11_side 20 = .ok (.getfield 179, 3) := by decide +kernel
theorem dX11_side_23 : decode cX11_side 23 = .ok (.iload_n 1, 1) := by decide +kernel
theorem dX11_side_24 : decode cX11_side 24 = .ok (.laload, 1) := by decide +kernel
theorem dX11_side_25 : decode cX11_side 25 = .ok (.goto 15, 3) := by decide +kernel
theorem dX11_side_28 : decode cX11_side 28 = .ok (.aload_n 0, 1) := by decide +kernel
theorem dX11_side_29 : decode cX11_side 29 = .ok (.getfield 23, 3) := by decide +kernel
theorem dX11_side_32 : decode cX11_side 32 = .ok (.getfield 52, 3) := by decide +kernel
theorem dX11_side_35 : decode cX11_side 35 = .ok (.getfield 183, 3) := by decide +kernel
theorem dX11_side_38 : decode cX11_side 38 = .ok (.iload_n 1, 1) := by decide +kernel
theorem dX11_side_39 : decode cX11_side 39 = .ok (.laload, 1) := by decide +kernel
theorem dX11_side_40 : decode cX11_side 40 = .ok (.iload_n 3, 1) := by decide +kernel
theorem dX11_side_41 : decode cX11_side 41 = .ok (.invokestatic 186, 3) := by decide +kernel
theorem dX11_side_44 : decode cX11_side 44 = .ok (.ireturn, 1) := by decide +kernel
abbrev rmX11_side : Room := { frames := 8, cells := 2, slots := 12, locals := 141 }
noncomputable def fX11_side (σ : St) (x0 : Nat) (x1 : Int32) (x2 : Int32) (x3 : Int32) : Option ((Int32 ⊕ String) × St) :=
(isO σ x0 10).bind fun _ =>
(fX11_needRule σ x0 x1).bind fun w2 =>
(match w2 with
| (Sum.inl _, σ2) =>
(fX11_needIndex σ2 x3).bind fun w6 =>
(match w6 with
| (Sum.inl _, σ6) =>
if x2 = 0 then
((gR σ6 x0 10 3).bind fun v29 =>
(gR σ6 v29 2 0).bind fun v32 =>
(gR σ6 v32 8 2).bind fun v35 =>
(aL σ6 v35 x1).bind fun v39 =>
(fX10_letterOf v39 x3).bind fun w41 =>
some (Sum.inl w41, σ6))
else
((gR σ6 x0 10 3).bind fun v14 =>
(gR σ6 v14 2 0).bind fun v17 =>
(gR σ6 v17 8 3).bind fun v20 =>
(aL σ6 v20 x1).bind fun v24 =>
(fX10_letterOf v24 x3).bind fun w41 =>
some (Sum.inl w41, σ6))
| (Sum.inr E6, σ6) =>
some (Sum.inr E6, σ6))
| (Sum.inr E2, σ2) =>
some (Sum.inr E2, σ2))
set_option maxHeartbeats 4000000 in
set_option maxRecDepth 100000 in
theorem cX11_sidec {l : Launch} (hst : l.stackTraces = false) {adK adV : Nat → Nat} {G : xG} {A : Nat → Prop} {σ : St} {x0 : Nat} {x1 : Int32} {x2 : Int32} {x3 : Int32} {c : (Int32 ⊕ String) × St} (hf : fX11_side σ x0 x1 x2 x3 = some c) : ConX l yX11_side (xws yX11_side cX11_side 4 (some .int)) rmX11_side 2 12 [.ref (x0), .int (x1), .int (x2), .int (x3)] adK adV G A σ (xoI c.1) c.2 := by
  refine z_start hst rfl (Nat.le_of_ble_eq_true rfl) (fun X _ _ _ C O hE0 => ?_)
  have hE : ∀ r, c = r → zE X 2 12 (xoI r.1) r.2 := fun r e => e ▸ hE0
  show Vz X (0, 0) σ 0 [(0, .ref (x0)), (1, .int (x1)), (2, .int (x2)), (3, .int (x3))] []
  unfold fX11_side at hf
  refine z_aload_n C dX11_side_0 1 rfl 0 rfl rfl ?_
  refine z_iload_n C dX11_side_1 2 rfl 1 rfl rfl ?_
  obtain ⟨o2, ho2, hf⟩ := x_bind hf
  obtain ⟨⟨r2, σ2⟩, hw2, hf⟩ := x_bind hf
  cases r2 with
  | inl _ =>
    dsimp only at hf
    refine z_cVn C O.2.2 dX11_side_2 5 rfl ho2 cl10.1 rfl (cX11_needRulec O.1 hw2) kX11_needRule kvX11_needRule w1049 ⟨rfl, rfl⟩ ⟨Nat.le_of_ble_eq_true rfl, Nat.le_of_ble_eq_true rfl⟩ ⟨Nat.le_of_ble_eq_true rfl, Nat.le_of_ble_eq_true rfl⟩ rfl rfl (Nat.le_of_ble_eq_true rfl) (1, 6) rfl ?_
    refine z_iload_n C dX11_side_5 6 rfl 3 rfl rfl ?_
    obtain ⟨⟨r6, σ6⟩, hw6, hf⟩ := x_bind hf
    cases r6 with
    | inl _ =>
      dsimp only at hf
      refine z_cSn C O.2.2 dX11_side_6 9 rfl (cX11_needIndexc O.1 hw6) kX11_needIndex ksX11_needIndex w1054 ⟨rfl, rfl⟩ ⟨Nat.le_of_ble_eq_true rfl, Nat.le_of_ble_eq_true rfl⟩ ⟨Nat.le_of_ble_eq_true rfl, Nat.le_of_ble_eq_true rfl⟩ rfl rfl (Nat.le_of_ble_eq_true rfl) (2, 12) rfl ?_
      refine z_iload_n C dX11_side_9 10 rfl 2 rfl rfl ?_
      refine z_if_eq C dX11_side_10 28 (by decide) 13 rfl (fun hc => ?_) (fun hc => ?_)
      · have hf := (if_pos hc).symm.trans hf
        refine z_aload_n C dX11_side_28 29 rfl 0 rfl rfl ?_
        obtain ⟨v29, hv29, hf⟩ := x_bind hf
        refine z_getR C dX11_side_29 32 rfl hv29 cl10 rfl w518 ?_
        obtain ⟨v32, hv32, hf⟩ := x_bind hf
        refine z_getR C dX11_side_32 35 rfl hv32 cl2 rfl w235 ?_
        obtain ⟨v35, hv35, hf⟩ := x_bind hf
        refine z_getR C dX11_side_35 38 rfl hv35 cl8 rfl w195 ?_
        refine z_iload_n C dX11_side_38 39 rfl 1 rfl rfl ?_
        obtain ⟨v39, hv39, hf⟩ := x_bind hf
        refine z_laload C dX11_side_39 40 rfl hv39 ?_
        refine z_iload_n C dX11_side_40 41 rfl 3 rfl rfl ?_
        obtain ⟨w41, hw41, hf⟩ := x_bind hf
        refine z_callSi C dX11_side_41 44 rfl (cX10_letterOfc hw41) kX10_letterOf ksX10_letterOf w725 ⟨rfl, rfl⟩ ⟨Nat.le_of_ble_eq_true rfl, Nat.le_of_ble_eq_true rfl⟩ ⟨Nat.le_of_ble_eq_true rfl, Nat.le_of_ble_eq_true rfl⟩ rfl rfl (Nat.le_of_ble_eq_true rfl) ?_
        exact z_iret C (hE _ (Option.some.inj hf).symm) ⟨Nat.le_of_ble_eq_true rfl, Nat.le_of_ble_eq_true rfl⟩ dX11_side_44
      · have hf := (if_neg hc).symm.trans hf
        refine z_aload_n C dX11_side_13 14 rfl 0 rfl rfl ?_
        obtain ⟨v14, hv14, hf⟩ := x_bind hf
        refine z_getR C dX11_side_14 17 rfl hv14 cl10 rfl w518 ?_
        obtain ⟨v17, hv17, hf⟩ := x_bind hf
        refine z_getR C dX11_side_17 20 rfl hv17 cl2 rfl w235 ?_
        obtain ⟨v20, hv20, hf⟩ := x_bind hf
        refine z_getR C dX11_side_20 23 rfl hv20 cl8 rfl w201 ?_
        refine z_iload_n C dX11_side_23 24 rfl 1 rfl rfl ?_
        obtain ⟨v24, hv24, hf⟩ := x_bind hf
        refine z_laload C dX11_side_24 25 rfl hv24 ?_
        refine z_goto C dX11_side_25 40 (by decide) ?_
        refine z_iload_n C dX11_side_40 41 rfl 3 rfl rfl ?_
        obtain ⟨w41, hw41, hf⟩ := x_bind hf
        refine z_callSi C dX11_side_41 44 rfl (cX10_letterOfc hw41) kX10_letterOf ksX10_letterOf w725 ⟨rfl, rfl⟩ ⟨Nat.le_of_ble_eq_true rfl, Nat.le_of_ble_eq_true rfl⟩ ⟨Nat.le_of_ble_eq_true rfl, Nat.le_of_ble_eq_true rfl⟩ rfl rfl (Nat.le_of_ble_eq_true rfl) ?_
        exact z_iret C (hE _ (Option.some.inj hf).symm) ⟨Nat.le_of_ble_eq_true rfl, Nat.le_of_ble_eq_true rfl⟩ dX11_side_44
    | inr E6 =>
      dsimp only at hf
      exact z_cSt C O dX11_side_6 (cX11_needIndexc O.1 hw6) kX11_needIndex ksX11_needIndex w1054 ⟨rfl, rfl⟩ ⟨Nat.le_of_ble_eq_true rfl, Nat.le_of_ble_eq_true rfl⟩ ⟨Nat.le_of_ble_eq_true rfl, Nat.le_of_ble_eq_true rfl⟩ rfl rfl (Nat.le_of_ble_eq_true rfl) ⟨Nat.le_of_ble_eq_true rfl, Nat.le_of_ble_eq_true rfl⟩ (hE _ (Option.some.inj hf).symm)
  | inr E2 =>
    dsimp only at hf
    exact z_cVt C O dX11_side_2 ho2 cl10.1 rfl (cX11_needRulec O.1 hw2) kX11_needRule kvX11_needRule w1049 ⟨rfl, rfl⟩ ⟨Nat.le_of_ble_eq_true rfl, Nat.le_of_ble_eq_true rfl⟩ ⟨Nat.le_of_ble_eq_true rfl, Nat.le_of_ble_eq_true rfl⟩ rfl rfl (Nat.le_of_ble_eq_true rfl) ⟨Nat.le_of_ble_eq_true rfl, Nat.le_of_ble_eq_true rfl⟩ (hE _ (Option.some.inj hf).symm)
theorem dX11_step_0 : decode cX11_step 0 = .ok (.iload_n 1, 1) := by decide +kernel
theorem dX11_step_1 : decode cX11_step 1 = .ok (.invokestatic 229, 3) := by decide +kernel
theorem dX11_step_4 : decode cX11_step 4 = .ok (.iload_n 2, 1) := by decide +kernel
theorem dX11_step_5 : decode cX11_step 5 = .ok (.invokestatic 176, 3) := by decide +kernel
theorem dX11_step_8 : decode cX11_step 8 = .ok (.iload_n 3, 1) := by decide +kernel
theorem dX11_step_9 : decode cX11_step 9 = .ok (.iconst 1, 1) := by decide +kernel
theorem dX11_step_10 : decode cX11_step 10 = .ok (.invokestatic 194, 3) := by decide +kernel
theorem dX11_step_13 : decode cX11_step 13 = .ok (.aload_n 0, 1) := by decide +kernel
theorem dX11_step_14 : decode cX11_step 14 = .ok (.getfield 23, 3) := by decide +kernel
theorem dX11_step_17 : decode cX11_step 17 = .ok (.getfield 52, 3) := by decide +kernel
theorem dX11_step_20 : decode cX11_step 20 = .ok (.aload_n 0, 1) := by decide +kernel
theorem dX11_step_21 : decode cX11_step 21 = .ok (.getfield 23, 3) := by decide +kernel
theorem dX11_step_24 : decode cX11_step 24 = .ok (.getfield 232, 3) := by decide +kernel
theorem dX11_step_27 : decode cX11_step 27 = .ok (.iload_n 1, 1) := by decide +kernel
theorem dX11_step_28 : decode cX11_step 28 = .ok (.laload, 1) := by decide +kernel
theorem dX11_step_29 : decode cX11_step 29 = .ok (.iload_n 2, 1) := by decide +kernel
theorem dX11_step_30 : decode cX11_step 30 = .ok (.invokevirtual 250, 3) := by decide +kernel
theorem dX11_step_33 : decode cX11_step 33 = .ok (.istore 4, 2) := by decide +kernel
theorem dX11_step_35 : decode cX11_step 35 = .ok (.iload 4, 2) := by decide +kernel
theorem dX11_step_37 : decode cX11_step 37 = .ok (.iconst (-1), 1) := by decide +kernel
theorem dX11_step_38 : decode cX11_step 38 = .ok (.if_icmp .ne 14, 3) := by decide +kernel
theorem dX11_step_41 : decode cX11_step 41 = .ok (.new 166, 3) := by decide +kernel
theorem dX11_step_44 : decode cX11_step 44 = .ok (.dup, 1) := by decide +kernel
theorem dX11_step_45 : decode cX11_step 45 = .ok (.ldc_w 272, 3) := by decide +kernel
theorem dX11_step_48 : decode cX11_step 48 = .ok (.invokespecial 170, 3) := by decide +kernel
theorem dX11_step_51 : decode cX11_step 51 = .ok (.athrow, 1) := by decide +kernel
theorem dX11_step_52 : decode cX11_step 52 = .ok (.iload_n 3, 1) := by decide +kernel
theorem dX11_step_53 : decode cX11_step 53 = .ok (.ifCond .ne 11, 3) := by decide +kernel
theorem dX11_step_56 : decode cX11_step 56 = .ok (.iload 4, 2) := by decide +kernel
theorem dX11_step_58 : decode cX11_step 58 = .ok (.invokestatic 274, 3) := by decide +kernel
theorem dX11_step_61 : decode cX11_step 61 = .ok (.goto 8, 3) := by decide +kernel
theorem dX11_step_64 : decode cX11_step 64 = .ok (.iload 4, 2) := by decide +kernel
theorem dX11_step_66 : decode cX11_step 66 = .ok (.invokestatic 277, 3) := by decide +kernel
theorem dX11_step_69 : decode cX11_step 69 = .ok (.ireturn, 1) := by decide +kernel
abbrev rmX11_step : Room := { frames := 8, cells := 4, slots := 24, locals := 141 }
noncomputable def fX11_step (σ : St) (x0 : Nat) (x1 : Int32) (x2 : Int32) (x3 : Int32) : Option ((Int32 ⊕ String) × St) :=
(fX11_needPlace σ x1).bind fun w1 =>
(match w1 with
| (Sum.inl _, σ1) =>
(fX11_needIndex σ1 x2).bind fun w5 =>
(match w5 with
| (Sum.inl _, σ5) =>
(fX11_needWhat σ5 x3 1).bind fun w10 =>
(match w10 with
| (Sum.inl _, σ10) =>
(gR σ10 x0 10 3).bind fun v14 =>
(gR σ10 v14 2 0).bind fun v17 =>
(gR σ10 x0 10 3).bind fun v21 =>
(gR σ10 v21 2 2).bind fun v24 =>
(aL σ10 v24 x1).bind fun v28 =>
(isO σ10 v17 8).bind fun _ =>
(fX8_stepCode σ10 v17 v28 x2).bind fun w30 =>
if w30 = (((-1) : Int32)) then
(some (Sum.inr xNSE, σ10))
else
(if x3 = 0 then
((fX8_whereOf w30).bind fun w58 =>
some (Sum.inl w58, σ10))
else
((fX8_ruleOf w30).bind fun w66 =>
some (Sum.inl w66, σ10)))
| (Sum.inr E10, σ10) =>
some (Sum.inr E10, σ10))
| (Sum.inr E5, σ5) =>
some (Sum.inr E5, σ5))
| (Sum.inr E1, σ1) =>
some (Sum.inr E1, σ1))
set_option maxHeartbeats 4000000 in
set_option maxRecDepth 100000 in
theorem cX11_stepc {l : Launch} (hst : l.stackTraces = false) {adK adV : Nat → Nat} {G : xG} {A : Nat → Prop} {σ : St} {x0 : Nat} {x1 : Int32} {x2 : Int32} {x3 : Int32} {c : (Int32 ⊕ String) × St} (hf : fX11_step σ x0 x1 x2 x3 = some c) : ConX l yX11_step (xws yX11_step cX11_step 5 (some .int)) rmX11_step 4 24 [.ref (x0), .int (x1), .int (x2), .int (x3)] adK adV G A σ (xoI c.1) c.2 := by
  refine z_start hst rfl (Nat.le_of_ble_eq_true rfl) (fun X _ _ _ C O hE0 => ?_)
  have hE : ∀ r, c = r → zE X 4 24 (xoI r.1) r.2 := fun r e => e ▸ hE0
  show Vz X (0, 0) σ 0 [(0, .ref (x0)), (1, .int (x1)), (2, .int (x2)), (3, .int (x3))] []
  unfold fX11_step at hf
  refine z_iload_n C dX11_step_0 1 rfl 1 rfl rfl ?_
  obtain ⟨⟨r1, σ1⟩, hw1, hf⟩ := x_bind hf
  cases r1 with
  | inl _ =>
    dsimp only at hf
    refine z_cSn C O.2.2 dX11_step_1 4 rfl (cX11_needPlacec O.1 hw1) kX11_needPlace ksX11_needPlace w1111 ⟨rfl, rfl⟩ ⟨Nat.le_of_ble_eq_true rfl, Nat.le_of_ble_eq_true rfl⟩ ⟨Nat.le_of_ble_eq_true rfl, Nat.le_of_ble_eq_true rfl⟩ rfl rfl (Nat.le_of_ble_eq_true rfl) (1, 6) rfl ?_
    refine z_iload_n C dX11_step_4 5 rfl 2 rfl rfl ?_
    obtain ⟨⟨r5, σ5⟩, hw5, hf⟩ := x_bind hf
    cases r5 with
    | inl _ =>
      dsimp only at hf
      refine z_cSn C O.2.2 dX11_step_5 8 rfl (cX11_needIndexc O.1 hw5) kX11_needIndex ksX11_needIndex w1054 ⟨rfl, rfl⟩ ⟨Nat.le_of_ble_eq_true rfl, Nat.le_of_ble_eq_true rfl⟩ ⟨Nat.le_of_ble_eq_true rfl, Nat.le_of_ble_eq_true rfl⟩ rfl rfl (Nat.le_of_ble_eq_true rfl) (2, 12) rfl ?_
      refine z_iload_n C dX11_step_8 9 rfl 3 rfl rfl ?_
      refine z_iconst C dX11_step_9 10 rfl 1 (by decide) ?_
      obtain ⟨⟨r10, σ10⟩, hw10, hf⟩ := x_bind hf
      cases r10 with
      | inl _ =>
        dsimp only at hf
        refine z_cSn C O.2.2 dX11_step_10 13 rfl (cX11_needWhatc O.1 hw10) kX11_needWhat ksX11_needWhat w1066 ⟨rfl, rfl⟩ ⟨Nat.le_of_ble_eq_true rfl, Nat.le_of_ble_eq_true rfl⟩ ⟨Nat.le_of_ble_eq_true rfl, Nat.le_of_ble_eq_true rfl⟩ rfl rfl (Nat.le_of_ble_eq_true rfl) (3, 18) rfl ?_
        refine z_aload_n C dX11_step_13 14 rfl 0 rfl rfl ?_
        obtain ⟨v14, hv14, hf⟩ := x_bind hf
        refine z_getR C dX11_step_14 17 rfl hv14 cl10 rfl w518 ?_
        obtain ⟨v17, hv17, hf⟩ := x_bind hf
        refine z_getR C dX11_step_17 20 rfl hv17 cl2 rfl w235 ?_
        refine z_aload_n C dX11_step_20 21 rfl 0 rfl rfl ?_
        obtain ⟨v21, hv21, hf⟩ := x_bind hf
        refine z_getR C dX11_step_21 24 rfl hv21 cl10 rfl w518 ?_
        obtain ⟨v24, hv24, hf⟩ := x_bind hf
        refine z_getR C dX11_step_24 27 rfl hv24 cl2 rfl w241 ?_
        refine z_iload_n C dX11_step_27 28 rfl 1 rfl rfl ?_
        obtain ⟨v28, hv28, hf⟩ := x_bind hf
        refine z_laload C dX11_step_28 29 rfl hv28 ?_
        refine z_iload_n C dX11_step_29 30 rfl 2 rfl rfl ?_
        obtain ⟨o30, ho30, hf⟩ := x_bind hf
        obtain ⟨w30, hw30, hf⟩ := x_bind hf
        refine z_callVi C dX11_step_30 33 rfl ho30 cl8.1 rfl (cX8_stepCodec hw30) kX8_stepCode kvX8_stepCode w1144 ⟨rfl, rfl⟩ ⟨Nat.le_of_ble_eq_true rfl, Nat.le_of_ble_eq_true rfl⟩ ⟨Nat.le_of_ble_eq_true rfl, Nat.le_of_ble_eq_true rfl⟩ rfl rfl (Nat.le_of_ble_eq_true rfl) ?_
        refine z_istore C dX11_step_33 35 rfl rfl [(4, .int (w30)), (0, .ref (x0)), (1, .int (x1)), (2, .int (x2)), (3, .int (x3))] rfl ?_
        refine z_iload C dX11_step_35 37 rfl 0 rfl ?_
        refine z_iconst C dX11_step_37 38 rfl (-1) (by decide) ?_
        refine z_icmp_ne C dX11_step_38 52 (by decide) 41 rfl (fun hc => ?_) (fun hc => ?_)
        · have hf := (if_neg hc).symm.trans hf
          refine z_iload_n C dX11_step_52 53 rfl 4 rfl rfl ?_
          refine z_if_ne C dX11_step_53 64 (by decide) 56 rfl (fun hc => ?_) (fun hc => ?_)
          · have hf := (if_neg hc).symm.trans hf
            refine z_iload C dX11_step_64 66 rfl 0 rfl ?_
            obtain ⟨w66, hw66, hf⟩ := x_bind hf
            refine z_callSi C dX11_step_66 69 rfl (cX8_ruleOfc hw66) kX8_ruleOf ksX8_ruleOf w1212 ⟨rfl, rfl⟩ ⟨Nat.le_of_ble_eq_true rfl, Nat.le_of_ble_eq_true rfl⟩ ⟨Nat.le_of_ble_eq_true rfl, Nat.le_of_ble_eq_true rfl⟩ rfl rfl (Nat.le_of_ble_eq_true rfl) ?_
            exact z_iret C (hE _ (Option.some.inj hf).symm) ⟨Nat.le_of_ble_eq_true rfl, Nat.le_of_ble_eq_true rfl⟩ dX11_step_69
          · have hf := (if_pos hc).symm.trans hf
            refine z_iload C dX11_step_56 58 rfl 0 rfl ?_
            obtain ⟨w58, hw58, hf⟩ := x_bind hf
            refine z_callSi C dX11_step_58 61 rfl (cX8_whereOfc hw58) kX8_whereOf ksX8_whereOf w1211 ⟨rfl, rfl⟩ ⟨Nat.le_of_ble_eq_true rfl, Nat.le_of_ble_eq_true rfl⟩ ⟨Nat.le_of_ble_eq_true rfl, Nat.le_of_ble_eq_true rfl⟩ rfl rfl (Nat.le_of_ble_eq_true rfl) ?_
            refine z_goto C dX11_step_61 69 (by decide) ?_
            exact z_iret C (hE _ (Option.some.inj hf).symm) ⟨Nat.le_of_ble_eq_true rfl, Nat.le_of_ble_eq_true rfl⟩ dX11_step_69
        · have hf := (if_pos hc).symm.trans hf
          exact z_nseSW C O fitNSE w1026 w152 hatNSE goodNSE (List.mem_of_getElem? (i := 3) rfl) dX11_step_41 dX11_step_44 dX11_step_45 dX11_step_48 dX11_step_51 ⟨Nat.le_of_ble_eq_true rfl, Nat.le_of_ble_eq_true rfl⟩ ⟨Nat.le_of_ble_eq_true rfl, Nat.le_of_ble_eq_true rfl⟩ ⟨Nat.le_of_ble_eq_true rfl, Nat.le_of_ble_eq_true rfl⟩ (hE _ (Option.some.inj hf).symm)
      | inr E10 =>
        dsimp only at hf
        exact z_cSt C O dX11_step_10 (cX11_needWhatc O.1 hw10) kX11_needWhat ksX11_needWhat w1066 ⟨rfl, rfl⟩ ⟨Nat.le_of_ble_eq_true rfl, Nat.le_of_ble_eq_true rfl⟩ ⟨Nat.le_of_ble_eq_true rfl, Nat.le_of_ble_eq_true rfl⟩ rfl rfl (Nat.le_of_ble_eq_true rfl) ⟨Nat.le_of_ble_eq_true rfl, Nat.le_of_ble_eq_true rfl⟩ (hE _ (Option.some.inj hf).symm)
    | inr E5 =>
      dsimp only at hf
      exact z_cSt C O dX11_step_5 (cX11_needIndexc O.1 hw5) kX11_needIndex ksX11_needIndex w1054 ⟨rfl, rfl⟩ ⟨Nat.le_of_ble_eq_true rfl, Nat.le_of_ble_eq_true rfl⟩ ⟨Nat.le_of_ble_eq_true rfl, Nat.le_of_ble_eq_true rfl⟩ rfl rfl (Nat.le_of_ble_eq_true rfl) ⟨Nat.le_of_ble_eq_true rfl, Nat.le_of_ble_eq_true rfl⟩ (hE _ (Option.some.inj hf).symm)
  | inr E1 =>
    dsimp only at hf
    exact z_cSt C O dX11_step_1 (cX11_needPlacec O.1 hw1) kX11_needPlace ksX11_needPlace w1111 ⟨rfl, rfl⟩ ⟨Nat.le_of_ble_eq_true rfl, Nat.le_of_ble_eq_true rfl⟩ ⟨Nat.le_of_ble_eq_true rfl, Nat.le_of_ble_eq_true rfl⟩ rfl rfl (Nat.le_of_ble_eq_true rfl) ⟨Nat.le_of_ble_eq_true rfl, Nat.le_of_ble_eq_true rfl⟩ (hE _ (Option.some.inj hf).symm)
theorem dX11_take_0 : decode cX11_take 0 = .ok (.iload_n 1, 1) := by decide +kernel
theorem dX11_take_1 : decode cX11_take 1 = .ok (.invokestatic 229, 3) := by decide +kernel
theorem dX11_take_4 : decode cX11_take 4 = .ok (.iload_n 2, 1) := by decide +kernel
theorem dX11_take_5 : decode cX11_take 5 = .ok (.invokestatic 229, 3) := by decide +kernel
theorem dX11_take_8 : decode cX11_take 8 = .ok (.aload_n 0, 1) := by decide +kernel
theorem dX11_take_9 : decode cX11_take 9 = .ok (.getfield 77, 3) := by decide +kernel
theorem dX11_take_12 : decode cX11_take 12 = .ok (.aload_n 0, 1) := by decide +kernel
theorem dX11_take_13 : decode cX11_take 13 = .ok (.getfield 23, 3) := by decide +kernel
theorem dX11_take_16 : decode cX11_take 16 = .ok (.getfield 232, 3) := by decide +kernel
theorem dX11_take_19 : decode cX11_take 19 = .ok (.iload_n 2, 1) := by decide +kernel
theorem dX11_take_20 : decode cX11_take 20 = .ok (.laload, 1) := by decide +kernel
theorem dX11_take_21 : decode cX11_take 21 = .ok (.invokevirtual 235, 3) := by decide +kernel
theorem dX11_take_24 : decode cX11_take 24 = .ok (.iload_n 3, 1) := by decide +kernel
theorem dX11_take_25 : decode cX11_take 25 = .ok (.aload_n 0, 1) := by decide +kernel
theorem dX11_take_26 : decode cX11_take 26 = .ok (.getfield 77, 3) := by decide +kernel
theorem dX11_take_29 : decode cX11_take 29 = .ok (.getfield 253, 3) := by decide +kernel
theorem dX11_take_32 : decode cX11_take 32 = .ok (.invokestatic 297, 3) := by decide +kernel
theorem dX11_take_35 : decode cX11_take 35 = .ok (.aload_n 0, 1) := by decide +kernel
theorem dX11_take_36 : decode cX11_take 36 = .ok (.getfield 37, 3) := by decide +kernel
theorem dX11_take_39 : decode cX11_take 39 = .ok (.aload_n 0, 1) := by decide +kernel
theorem dX11_take_40 : decode cX11_take 40 = .ok (.getfield 23, 3) := by decide +kernel
theorem dX11_take_43 : decode cX11_take 43 = .ok (.invokevirtual 218, 3) := by decide +kernel
theorem dX11_take_46 : decode cX11_take 46 = .ok (.aload_n 0, 1) := by decide +kernel
theorem dX11_take_47 : decode cX11_take 47 = .ok (.getfield 23, 3) := by decide +kernel
theorem dX11_take_50 : decode cX11_take 50 = .ok (.iload_n 1, 1) := by decide +kernel
theorem dX11_take_51 : decode cX11_take 51 = .ok (.aload_n 0, 1) := by decide +kernel
theorem dX11_take_52 : decode cX11_take 52 = .ok (.getfield 77, 3) := by decide +kernel
theorem dX11_take_55 : decode cX11_take 55 = .ok (.getfield 300, 3) := by decide +kernel
theorem dX11_take_58 : decode cX11_take 58 = .ok (.iload_n 3, 1) := by decide +kernel
theorem dX11_take_59 : decode cX11_take 59 = .ok (.laload, 1) := by decide +kernel
theorem dX11_take_60 : decode cX11_take 60 = .ok (.invokevirtual 221, 3) := by decide +kernel
theorem dX11_take_63 : decode cX11_take 63 = .ok (.aload_n 0, 1) := by decide +kernel
theorem dX11_take_64 : decode cX11_take 64 = .ok (.getfield 23, 3) := by decide +kernel
theorem dX11_take_67 : decode cX11_take 67 = .ok (.getfield 232, 3) := by decide +kernel
theorem dX11_take_70 : decode cX11_take 70 = .ok (.iload_n 1, 1) := by decide +kernel
theorem dX11_take_71 : decode cX11_take 71 = .ok (.laload, 1) := by decide +kernel
theorem dX11_take_72 : decode cX11_take 72 = .ok (.invokestatic 239, 3) := by decide +kernel
theorem dX11_take_75 : decode cX11_take 75 = .ok (.ireturn, 1) := by decide +kernel
abbrev rmX11_take : Room := { frames := 8, cells := 3, slots := 18, locals := 141 }
noncomputable def fX11_take (σ : St) (x0 : Nat) (x1 : Int32) (x2 : Int32) (x3 : Int32) : Option ((Int32 ⊕ String) × St) :=
(fX11_needPlace σ x1).bind fun w1 =>
(match w1 with
| (Sum.inl _, σ1) =>
(fX11_needPlace σ1 x2).bind fun w5 =>
(match w5 with
| (Sum.inl _, σ5) =>
(gR σ5 x0 10 10).bind fun v9 =>
(gR σ5 x0 10 3).bind fun v13 =>
(gR σ5 v13 2 2).bind fun v16 =>
(aL σ5 v16 x2).bind fun v20 =>
(isO σ5 v9 6).bind fun _ =>
(fX6_spread σ5 v9 v20).bind fun w21 =>
(gR w21 x0 10 10).bind fun v26 =>
(gI w21 v26 6 4).bind fun v29 =>
(fX11_needBelow w21 x3 v29).bind fun w32 =>
(match w32 with
| (Sum.inl _, σ32) =>
(gR σ32 x0 10 6).bind fun v36 =>
(gR σ32 x0 10 3).bind fun v40 =>
(isO σ32 v36 0).bind fun _ =>
(fX0_keep σ32 v36 v40).bind fun w43 =>
(gR w43 x0 10 3).bind fun v47 =>
(gR w43 x0 10 10).bind fun v52 =>
(gR w43 v52 6 2).bind fun v55 =>
(aL w43 v55 x3).bind fun v59 =>
(isO w43 v47 2).bind fun _ =>
(fX2_begin w43 v47 x1 v59).bind fun w60 =>
(gR w60 x0 10 3).bind fun v64 =>
(gR w60 v64 2 2).bind fun v67 =>
(aL w60 v67 x1).bind fun v71 =>
(fX10_length v71).bind fun w72 =>
some (Sum.inl w72, w60)
| (Sum.inr E32, σ32) =>
some (Sum.inr E32, σ32))
| (Sum.inr E5, σ5) =>
some (Sum.inr E5, σ5))
| (Sum.inr E1, σ1) =>
some (Sum.inr E1, σ1))
set_option maxHeartbeats 4000000 in
set_option maxRecDepth 100000 in
theorem cX11_takec {l : Launch} (hst : l.stackTraces = false) {adK adV : Nat → Nat} {G : xG} {A : Nat → Prop} {σ : St} {x0 : Nat} {x1 : Int32} {x2 : Int32} {x3 : Int32} {c : (Int32 ⊕ String) × St} (hf : fX11_take σ x0 x1 x2 x3 = some c) : ConX l yX11_take (xws yX11_take cX11_take 4 (some .int)) rmX11_take 3 18 [.ref (x0), .int (x1), .int (x2), .int (x3)] adK adV G A σ (xoI c.1) c.2 := by
  refine z_start hst rfl (Nat.le_of_ble_eq_true rfl) (fun X _ _ _ C O hE0 => ?_)
  have hE : ∀ r, c = r → zE X 3 18 (xoI r.1) r.2 := fun r e => e ▸ hE0
  show Vz X (0, 0) σ 0 [(0, .ref (x0)), (1, .int (x1)), (2, .int (x2)), (3, .int (x3))] []
  unfold fX11_take at hf
  refine z_iload_n C dX11_take_0 1 rfl 1 rfl rfl ?_
  obtain ⟨⟨r1, σ1⟩, hw1, hf⟩ := x_bind hf
  cases r1 with
  | inl _ =>
    dsimp only at hf
    refine z_cSn C O.2.2 dX11_take_1 4 rfl (cX11_needPlacec O.1 hw1) kX11_needPlace ksX11_needPlace w1111 ⟨rfl, rfl⟩ ⟨Nat.le_of_ble_eq_true rfl, Nat.le_of_ble_eq_true rfl⟩ ⟨Nat.le_of_ble_eq_true rfl, Nat.le_of_ble_eq_true rfl⟩ rfl rfl (Nat.le_of_ble_eq_true rfl) (1, 6) rfl ?_
    refine z_iload_n C dX11_take_4 5 rfl 2 rfl rfl ?_
    obtain ⟨⟨r5, σ5⟩, hw5, hf⟩ := x_bind hf
    cases r5 with
    | inl _ =>
      dsimp only at hf
      refine z_cSn C O.2.2 dX11_take_5 8 rfl (cX11_needPlacec O.1 hw5) kX11_needPlace ksX11_needPlace w1111 ⟨rfl, rfl⟩ ⟨Nat.le_of_ble_eq_true rfl, Nat.le_of_ble_eq_true rfl⟩ ⟨Nat.le_of_ble_eq_true rfl, Nat.le_of_ble_eq_true rfl⟩ rfl rfl (Nat.le_of_ble_eq_true rfl) (2, 12) rfl ?_
      refine z_aload_n C dX11_take_8 9 rfl 0 rfl rfl ?_
      obtain ⟨v9, hv9, hf⟩ := x_bind hf
      refine z_getR C dX11_take_9 12 rfl hv9 cl10 rfl w525 ?_
      refine z_aload_n C dX11_take_12 13 rfl 0 rfl rfl ?_
      obtain ⟨v13, hv13, hf⟩ := x_bind hf
      refine z_getR C dX11_take_13 16 rfl hv13 cl10 rfl w518 ?_
      obtain ⟨v16, hv16, hf⟩ := x_bind hf
      refine z_getR C dX11_take_16 19 rfl hv16 cl2 rfl w241 ?_
      refine z_iload_n C dX11_take_19 20 rfl 2 rfl rfl ?_
      obtain ⟨v20, hv20, hf⟩ := x_bind hf
      refine z_laload C dX11_take_20 21 rfl hv20 ?_
      obtain ⟨o21, ho21, hf⟩ := x_bind hf
      obtain ⟨w21, hw21, hf⟩ := x_bind hf
      refine z_callVv C dX11_take_21 24 rfl ho21 cl6.1 rfl (cX6_spreadc hw21) kX6_spread kvX6_spread w1114 ⟨rfl, rfl⟩ ⟨Nat.le_of_ble_eq_true rfl, Nat.le_of_ble_eq_true rfl⟩ ⟨Nat.le_of_ble_eq_true rfl, Nat.le_of_ble_eq_true rfl⟩ rfl rfl (Nat.le_of_ble_eq_true rfl) ?_
      refine z_iload_n C dX11_take_24 25 rfl 3 rfl rfl ?_
      refine z_aload_n C dX11_take_25 26 rfl 0 rfl rfl ?_
      obtain ⟨v26, hv26, hf⟩ := x_bind hf
      refine z_getR C dX11_take_26 29 rfl hv26 cl10 rfl w525 ?_
      obtain ⟨v29, hv29, hf⟩ := x_bind hf
      refine z_getI C dX11_take_29 32 rfl hv29 cl6 rfl w375 ?_
      obtain ⟨⟨r32, σ32⟩, hw32, hf⟩ := x_bind hf
      cases r32 with
      | inl _ =>
        dsimp only at hf
        refine z_cSn C O.2.2 dX11_take_32 35 rfl (cX11_needBelowc O.1 hw32) kX11_needBelow ksX11_needBelow w1250 ⟨rfl, rfl⟩ ⟨Nat.le_of_ble_eq_true rfl, Nat.le_of_ble_eq_true rfl⟩ ⟨Nat.le_of_ble_eq_true rfl, Nat.le_of_ble_eq_true rfl⟩ rfl rfl (Nat.le_of_ble_eq_true rfl) (3, 18) rfl ?_
        refine z_aload_n C dX11_take_35 36 rfl 0 rfl rfl ?_
        obtain ⟨v36, hv36, hf⟩ := x_bind hf
        refine z_getR C dX11_take_36 39 rfl hv36 cl10 rfl w521 ?_
        refine z_aload_n C dX11_take_39 40 rfl 0 rfl rfl ?_
        obtain ⟨v40, hv40, hf⟩ := x_bind hf
        refine z_getR C dX11_take_40 43 rfl hv40 cl10 rfl w518 ?_
        obtain ⟨o43, ho43, hf⟩ := x_bind hf
        obtain ⟨w43, hw43, hf⟩ := x_bind hf
        refine z_callVv C dX11_take_43 46 rfl ho43 cl0.1 rfl (cX0_keepc hw43) kX0_keep kvX0_keep w618 ⟨rfl, rfl⟩ ⟨Nat.le_of_ble_eq_true rfl, Nat.le_of_ble_eq_true rfl⟩ ⟨Nat.le_of_ble_eq_true rfl, Nat.le_of_ble_eq_true rfl⟩ rfl rfl (Nat.le_of_ble_eq_true rfl) ?_
        refine z_aload_n C dX11_take_46 47 rfl 0 rfl rfl ?_
        obtain ⟨v47, hv47, hf⟩ := x_bind hf
        refine z_getR C dX11_take_47 50 rfl hv47 cl10 rfl w518 ?_
        refine z_iload_n C dX11_take_50 51 rfl 1 rfl rfl ?_
        refine z_aload_n C dX11_take_51 52 rfl 0 rfl rfl ?_
        obtain ⟨v52, hv52, hf⟩ := x_bind hf
        refine z_getR C dX11_take_52 55 rfl hv52 cl10 rfl w525 ?_
        obtain ⟨v55, hv55, hf⟩ := x_bind hf
        refine z_getR C dX11_take_55 58 rfl hv55 cl6 rfl w371 ?_
        refine z_iload_n C dX11_take_58 59 rfl 3 rfl rfl ?_
        obtain ⟨v59, hv59, hf⟩ := x_bind hf
        refine z_laload C dX11_take_59 60 rfl hv59 ?_
        obtain ⟨o60, ho60, hf⟩ := x_bind hf
        obtain ⟨w60, hw60, hf⟩ := x_bind hf
        refine z_callVv C dX11_take_60 63 rfl ho60 cl2.1 rfl (cX2_beginc hw60) kX2_begin kvX2_begin w1103 ⟨rfl, rfl⟩ ⟨Nat.le_of_ble_eq_true rfl, Nat.le_of_ble_eq_true rfl⟩ ⟨Nat.le_of_ble_eq_true rfl, Nat.le_of_ble_eq_true rfl⟩ rfl rfl (Nat.le_of_ble_eq_true rfl) ?_
        refine z_aload_n C dX11_take_63 64 rfl 0 rfl rfl ?_
        obtain ⟨v64, hv64, hf⟩ := x_bind hf
        refine z_getR C dX11_take_64 67 rfl hv64 cl10 rfl w518 ?_
        obtain ⟨v67, hv67, hf⟩ := x_bind hf
        refine z_getR C dX11_take_67 70 rfl hv67 cl2 rfl w241 ?_
        refine z_iload_n C dX11_take_70 71 rfl 1 rfl rfl ?_
        obtain ⟨v71, hv71, hf⟩ := x_bind hf
        refine z_laload C dX11_take_71 72 rfl hv71 ?_
        obtain ⟨w72, hw72, hf⟩ := x_bind hf
        refine z_callSi C dX11_take_72 75 rfl (cX10_lengthc hw72) kX10_length ksX10_length w724 ⟨rfl, rfl⟩ ⟨Nat.le_of_ble_eq_true rfl, Nat.le_of_ble_eq_true rfl⟩ ⟨Nat.le_of_ble_eq_true rfl, Nat.le_of_ble_eq_true rfl⟩ rfl rfl (Nat.le_of_ble_eq_true rfl) ?_
        exact z_iret C (hE _ (Option.some.inj hf).symm) ⟨Nat.le_of_ble_eq_true rfl, Nat.le_of_ble_eq_true rfl⟩ dX11_take_75
      | inr E32 =>
        dsimp only at hf
        exact z_cSt C O dX11_take_32 (cX11_needBelowc O.1 hw32) kX11_needBelow ksX11_needBelow w1250 ⟨rfl, rfl⟩ ⟨Nat.le_of_ble_eq_true rfl, Nat.le_of_ble_eq_true rfl⟩ ⟨Nat.le_of_ble_eq_true rfl, Nat.le_of_ble_eq_true rfl⟩ rfl rfl (Nat.le_of_ble_eq_true rfl) ⟨Nat.le_of_ble_eq_true rfl, Nat.le_of_ble_eq_true rfl⟩ (hE _ (Option.some.inj hf).symm)
    | inr E5 =>
      dsimp only at hf
      exact z_cSt C O dX11_take_5 (cX11_needPlacec O.1 hw5) kX11_needPlace ksX11_needPlace w1111 ⟨rfl, rfl⟩ ⟨Nat.le_of_ble_eq_true rfl, Nat.le_of_ble_eq_true rfl⟩ ⟨Nat.le_of_ble_eq_true rfl, Nat.le_of_ble_eq_true rfl⟩ rfl rfl (Nat.le_of_ble_eq_true rfl) ⟨Nat.le_of_ble_eq_true rfl, Nat.le_of_ble_eq_true rfl⟩ (hE _ (Option.some.inj hf).symm)
  | inr E1 =>
    dsimp only at hf
    exact z_cSt C O dX11_take_1 (cX11_needPlacec O.1 hw1) kX11_needPlace ksX11_needPlace w1111 ⟨rfl, rfl⟩ ⟨Nat.le_of_ble_eq_true rfl, Nat.le_of_ble_eq_true rfl⟩ ⟨Nat.le_of_ble_eq_true rfl, Nat.le_of_ble_eq_true rfl⟩ rfl rfl (Nat.le_of_ble_eq_true rfl) ⟨Nat.le_of_ble_eq_true rfl, Nat.le_of_ble_eq_true rfl⟩ (hE _ (Option.some.inj hf).symm)
theorem dX11_tell_0 : decode cX11_tell 0 = .ok (.iload_n 1, 1) := by decide +kernel
theorem dX11_tell_1 : decode cX11_tell 1 = .ok (.ifCond .lt 9, 3) := by decide +kernel
theorem dX11_tell_4 : decode cX11_tell 4 = .ok (.iload_n 1, 1) := by decide +kernel
theorem dX11_tell_5 : decode cX11_tell 5 = .ok (.bipush 6, 2) := by decide +kernel
theorem dX11_tell_7 : decode cX11_tell 7 = .ok (.if_icmp .lt 13, 3) := by decide +kernel
theorem dX11_tell_10 : decode cX11_tell 10 = .ok (.new 207, 3) := by decide +kernel
theorem dX11_tell_13 : decode cX11_tell 13 = .ok (.dup, 1) := by decide +kernel
theorem dX11_tell_14 : decode cX11_tell 14 = .ok (.ldc 209, 2) := by decide +kernel
theorem dX11_tell_16 : decode cX11_tell 16 = .ok (.invokespecial 211, 3) := by decide +kernel
theorem dX11_tell_19 : decode cX11_tell 19 = .ok (.athrow, 1) := by decide +kernel
theorem dX11_tell_20 : decode cX11_tell 20 = .ok (.aload_n 0, 1) := by decide +kernel
theorem dX11_tell_21 : decode cX11_tell 21 = .ok (.iload_n 2, 1) := by decide +kernel
theorem dX11_tell_22 : decode cX11_tell 22 = .ok (.invokevirtual 126, 3) := by decide +kernel
theorem dX11_tell_25 : decode cX11_tell 25 = .ok (.aload_n 0, 1) := by decide +kernel
theorem dX11_tell_26 : decode cX11_tell 26 = .ok (.iconst 0, 1) := by decide +kernel
theorem dX11_tell_27 : decode cX11_tell 27 = .ok (.putfield 13, 3) := by decide +kernel
theorem dX11_tell_30 : decode cX11_tell 30 = .ok (.aload_n 0, 1) := by decide +kernel
theorem dX11_tell_31 : decode cX11_tell 31 = .ok (.iload_n 2, 1) := by decide +kernel
theorem dX11_tell_32 : decode cX11_tell 32 = .ok (.invokevirtual 212, 3) := by decide +kernel
theorem dX11_tell_35 : decode cX11_tell 35 = .ok (.lstore_n 3, 1) := by decide +kernel
theorem dX11_tell_36 : decode cX11_tell 36 = .ok (.lload_n 3, 1) := by decide +kernel
theorem dX11_tell_37 : decode cX11_tell 37 = .ok (.ldc2_w 216, 3) := by decide +kernel
theorem dX11_tell_40 : decode cX11_tell 40 = .ok (.lcmp, 1) := by decide +kernel
theorem dX11_tell_41 : decode cX11_tell 41 = .ok (.ifCond .ne 5, 3) := by decide +kernel
theorem dX11_tell_44 : decode cX11_tell 44 = .ok (.iconst (-1), 1) := by decide +kernel
theorem dX11_tell_45 : decode cX11_tell 45 = .ok (.ireturn, 1) := by decide +kernel
theorem dX11_tell_46 : decode cX11_tell 46 = .ok (.aload_n 0, 1) := by decide +kernel
theorem dX11_tell_47 : decode cX11_tell 47 = .ok (.getfield 37, 3) := by decide +kernel
theorem dX11_tell_50 : decode cX11_tell 50 = .ok (.aload_n 0, 1) := by decide +kernel
theorem dX11_tell_51 : decode cX11_tell 51 = .ok (.getfield 23, 3) := by decide +kernel
theorem dX11_tell_54 : decode cX11_tell 54 = .ok (.invokevirtual 218, 3) := by decide +kernel
theorem dX11_tell_57 : decode cX11_tell 57 = .ok (.aload_n 0, 1) := by decide +kernel
theorem dX11_tell_58 : decode cX11_tell 58 = .ok (.getfield 23, 3) := by decide +kernel
theorem dX11_tell_61 : decode cX11_tell 61 = .ok (.iload_n 1, 1) := by decide +kernel
theorem dX11_tell_62 : decode cX11_tell 62 = .ok (.lload_n 3, 1) := by decide +kernel
theorem dX11_tell_63 : decode cX11_tell 63 = .ok (.invokevirtual 221, 3) := by decide +kernel
theorem dX11_tell_66 : decode cX11_tell 66 = .ok (.iload_n 2, 1) := by decide +kernel
theorem dX11_tell_67 : decode cX11_tell 67 = .ok (.ireturn, 1) := by decide +kernel
abbrev rmX11_tell : Room := { frames := 8, cells := 1, slots := 6, locals := 141 }
noncomputable def fX11_tell (σ : St) (x0 : Nat) (x1 : Int32) (x2 : Int32) : Option ((Int32 ⊕ String) × St) :=
if x1 < 0 then
(some (Sum.inr xIAE, σ))
else
(if x1 < ((6 : Int32)) then
((isO σ x0 10).bind fun _ =>
(fX11_needBytes σ x0 x2).bind fun w22 =>
(match w22 with
| (Sum.inl _, σ22) =>
(wrF σ22 x0 10 1 (.int (0))).bind fun σ27 =>
(isO σ27 x0 10).bind fun _ =>
(fX11_wordOnTape σ27 x0 x2).bind fun w32 =>
if (lg_cmp w32 (-1)) = 0 then
(some (Sum.inl (-1), σ27))
else
((gR σ27 x0 10 6).bind fun v47 =>
(gR σ27 x0 10 3).bind fun v51 =>
(isO σ27 v47 0).bind fun _ =>
(fX0_keep σ27 v47 v51).bind fun w54 =>
(gR w54 x0 10 3).bind fun v58 =>
(isO w54 v58 2).bind fun _ =>
(fX2_begin w54 v58 x1 w32).bind fun w63 =>
some (Sum.inl x2, w63))
| (Sum.inr E22, σ22) =>
some (Sum.inr E22, σ22)))
else
(some (Sum.inr xIAE, σ)))
set_option maxHeartbeats 4000000 in
set_option maxRecDepth 100000 in
theorem cX11_tellc {l : Launch} (hst : l.stackTraces = false) {adK adV : Nat → Nat} {G : xG} {A : Nat → Prop} {σ : St} {x0 : Nat} {x1 : Int32} {x2 : Int32} {c : (Int32 ⊕ String) × St} (hf : fX11_tell σ x0 x1 x2 = some c) : ConX l yX11_tell (xws yX11_tell cX11_tell 5 (some .int)) rmX11_tell 1 6 [.ref (x0), .int (x1), .int (x2)] adK adV G A σ (xoI c.1) c.2 := by
  refine z_start hst rfl (Nat.le_of_ble_eq_true rfl) (fun X _ _ _ C O hE0 => ?_)
  have hE : ∀ r, c = r → zE X 1 6 (xoI r.1) r.2 := fun r e => e ▸ hE0
  show Vz X (0, 0) σ 0 [(0, .ref (x0)), (1, .int (x1)), (2, .int (x2))] []
  unfold fX11_tell at hf
  refine z_iload_n C dX11_tell_0 1 rfl 1 rfl rfl ?_
  refine z_if_lt C dX11_tell_1 10 (by decide) 4 rfl (fun hc => ?_) (fun hc => ?_)
  · have hf := (if_pos hc).symm.trans hf
    exact z_throwS C O fitIAE w767 w143 hatIAE goodIAE (List.mem_of_getElem? (i := 2) rfl) dX11_tell_10 dX11_tell_13 dX11_tell_14 dX11_tell_16 dX11_tell_19 ⟨Nat.le_of_ble_eq_true rfl, Nat.le_of_ble_eq_true rfl⟩ ⟨Nat.le_of_ble_eq_true rfl, Nat.le_of_ble_eq_true rfl⟩ ⟨Nat.le_of_ble_eq_true rfl, Nat.le_of_ble_eq_true rfl⟩ (hE _ (Option.some.inj hf).symm)
  · have hf := (if_neg hc).symm.trans hf
    refine z_iload_n C dX11_tell_4 5 rfl 1 rfl rfl ?_
    refine z_bipush C dX11_tell_5 7 rfl 6 (by decide) ?_
    refine z_icmp_lt C dX11_tell_7 20 (by decide) 10 rfl (fun hc => ?_) (fun hc => ?_)
    · have hf := (if_pos hc).symm.trans hf
      refine z_aload_n C dX11_tell_20 21 rfl 0 rfl rfl ?_
      refine z_iload_n C dX11_tell_21 22 rfl 2 rfl rfl ?_
      obtain ⟨o22, ho22, hf⟩ := x_bind hf
      obtain ⟨⟨r22, σ22⟩, hw22, hf⟩ := x_bind hf
      cases r22 with
      | inl _ =>
        dsimp only at hf
        refine z_cVn C O.2.2 dX11_tell_22 25 rfl ho22 cl10.1 rfl (cX11_needBytesc O.1 hw22) kX11_needBytes kvX11_needBytes w763 ⟨rfl, rfl⟩ ⟨Nat.le_of_ble_eq_true rfl, Nat.le_of_ble_eq_true rfl⟩ ⟨Nat.le_of_ble_eq_true rfl, Nat.le_of_ble_eq_true rfl⟩ rfl rfl (Nat.le_of_ble_eq_true rfl) (1, 6) rfl ?_
        refine z_aload_n C dX11_tell_25 26 rfl 0 rfl rfl ?_
        refine z_iconst C dX11_tell_26 27 rfl 0 (by decide) ?_
        obtain ⟨σ27, hσ27, hf⟩ := x_bind hf
        refine z_putX C dX11_tell_27 30 rfl hσ27 cl10 rfl w516 rfl rfl rfl ?_
        refine z_aload_n C dX11_tell_30 31 rfl 0 rfl rfl ?_
        refine z_iload_n C dX11_tell_31 32 rfl 2 rfl rfl ?_
        obtain ⟨o32, ho32, hf⟩ := x_bind hf
        obtain ⟨w32, hw32, hf⟩ := x_bind hf
        refine z_callVl C dX11_tell_32 35 rfl ho32 cl10.1 rfl (cX11_wordOnTapec hw32) kX11_wordOnTape kvX11_wordOnTape w1097 ⟨rfl, rfl⟩ ⟨Nat.le_of_ble_eq_true rfl, Nat.le_of_ble_eq_true rfl⟩ ⟨Nat.le_of_ble_eq_true rfl, Nat.le_of_ble_eq_true rfl⟩ rfl rfl (Nat.le_of_ble_eq_true rfl) ?_
        refine z_lstore_n C dX11_tell_35 36 rfl rfl rfl [(3, .long (w32)), (0, .ref (x0)), (1, .int (x1)), (2, .int (x2))] rfl ?_
        refine z_lload_n C dX11_tell_36 37 rfl 0 rfl rfl ?_
        refine z_ldc2 C dX11_tell_37 40 rfl w1101 ?_
        refine z_lcmp C dX11_tell_40 41 rfl ?_
        refine z_if_ne C dX11_tell_41 46 (by decide) 44 rfl (fun hc => ?_) (fun hc => ?_)
        · have hf := (if_neg hc).symm.trans hf
          refine z_aload_n C dX11_tell_46 47 rfl 1 rfl rfl ?_
          obtain ⟨v47, hv47, hf⟩ := x_bind hf
          refine z_getR C dX11_tell_47 50 rfl hv47 cl10 rfl w521 ?_
          refine z_aload_n C dX11_tell_50 51 rfl 1 rfl rfl ?_
          obtain ⟨v51, hv51, hf⟩ := x_bind hf
          refine z_getR C dX11_tell_51 54 rfl hv51 cl10 rfl w518 ?_
          obtain ⟨o54, ho54, hf⟩ := x_bind hf
          obtain ⟨w54, hw54, hf⟩ := x_bind hf
          refine z_callVv C dX11_tell_54 57 rfl ho54 cl0.1 rfl (cX0_keepc hw54) kX0_keep kvX0_keep w618 ⟨rfl, rfl⟩ ⟨Nat.le_of_ble_eq_true rfl, Nat.le_of_ble_eq_true rfl⟩ ⟨Nat.le_of_ble_eq_true rfl, Nat.le_of_ble_eq_true rfl⟩ rfl rfl (Nat.le_of_ble_eq_true rfl) ?_
          refine z_aload_n C dX11_tell_57 58 rfl 1 rfl rfl ?_
          obtain ⟨v58, hv58, hf⟩ := x_bind hf
          refine z_getR C dX11_tell_58 61 rfl hv58 cl10 rfl w518 ?_
          refine z_iload_n C dX11_tell_61 62 rfl 2 rfl rfl ?_
          refine z_lload_n C dX11_tell_62 63 rfl 0 rfl rfl ?_
          obtain ⟨o63, ho63, hf⟩ := x_bind hf
          obtain ⟨w63, hw63, hf⟩ := x_bind hf
          refine z_callVv C dX11_tell_63 66 rfl ho63 cl2.1 rfl (cX2_beginc hw63) kX2_begin kvX2_begin w1103 ⟨rfl, rfl⟩ ⟨Nat.le_of_ble_eq_true rfl, Nat.le_of_ble_eq_true rfl⟩ ⟨Nat.le_of_ble_eq_true rfl, Nat.le_of_ble_eq_true rfl⟩ rfl rfl (Nat.le_of_ble_eq_true rfl) ?_
          refine z_iload_n C dX11_tell_66 67 rfl 3 rfl rfl ?_
          exact z_iret C (hE _ (Option.some.inj hf).symm) ⟨Nat.le_of_ble_eq_true rfl, Nat.le_of_ble_eq_true rfl⟩ dX11_tell_67
        · have hf := (if_pos hc).symm.trans hf
          refine z_iconst C dX11_tell_44 45 rfl (-1) (by decide) ?_
          exact z_iret C (hE _ (Option.some.inj hf).symm) ⟨Nat.le_of_ble_eq_true rfl, Nat.le_of_ble_eq_true rfl⟩ dX11_tell_45
      | inr E22 =>
        dsimp only at hf
        exact z_cVt C O dX11_tell_22 ho22 cl10.1 rfl (cX11_needBytesc O.1 hw22) kX11_needBytes kvX11_needBytes w763 ⟨rfl, rfl⟩ ⟨Nat.le_of_ble_eq_true rfl, Nat.le_of_ble_eq_true rfl⟩ ⟨Nat.le_of_ble_eq_true rfl, Nat.le_of_ble_eq_true rfl⟩ rfl rfl (Nat.le_of_ble_eq_true rfl) ⟨Nat.le_of_ble_eq_true rfl, Nat.le_of_ble_eq_true rfl⟩ (hE _ (Option.some.inj hf).symm)
    · have hf := (if_neg hc).symm.trans hf
      exact z_throwS C O fitIAE w767 w143 hatIAE goodIAE (List.mem_of_getElem? (i := 2) rfl) dX11_tell_10 dX11_tell_13 dX11_tell_14 dX11_tell_16 dX11_tell_19 ⟨Nat.le_of_ble_eq_true rfl, Nat.le_of_ble_eq_true rfl⟩ ⟨Nat.le_of_ble_eq_true rfl, Nat.le_of_ble_eq_true rfl⟩ ⟨Nat.le_of_ble_eq_true rfl, Nat.le_of_ble_eq_true rfl⟩ (hE _ (Option.some.inj hf).symm)
theorem dX11_word_0 : decode cX11_word 0 = .ok (.iload_n 1, 1) := by decide +kernel
theorem dX11_word_1 : decode cX11_word 1 = .ok (.invokestatic 229, 3) := by decide +kernel
theorem dX11_word_4 : decode cX11_word 4 = .ok (.iload_n 2, 1) := by decide +kernel
theorem dX11_word_5 : decode cX11_word 5 = .ok (.bipush 9, 2) := by decide +kernel
theorem dX11_word_7 : decode cX11_word 7 = .ok (.invokestatic 194, 3) := by decide +kernel
theorem dX11_word_10 : decode cX11_word 10 = .ok (.aload_n 0, 1) := by decide +kernel
theorem dX11_word_11 : decode cX11_word 11 = .ok (.getfield 23, 3) := by decide +kernel
theorem dX11_word_14 : decode cX11_word 14 = .ok (.getfield 232, 3) := by decide +kernel
theorem dX11_word_17 : decode cX11_word 17 = .ok (.iload_n 1, 1) := by decide +kernel
theorem dX11_word_18 : decode cX11_word 18 = .ok (.laload, 1) := by decide +kernel
theorem dX11_word_19 : decode cX11_word 19 = .ok (.lstore_n 3, 1) := by decide +kernel
theorem dX11_word_20 : decode cX11_word 20 = .ok (.iload_n 2, 1) := by decide +kernel
theorem dX11_word_21 : decode cX11_word 21 = .ok (.iconst 4, 1) := by decide +kernel
theorem dX11_word_22 : decode cX11_word 22 = .ok (.if_icmp .lt 17, 3) := by decide +kernel
theorem dX11_word_25 : decode cX11_word 25 = .ok (.iload_n 2, 1) := by decide +kernel
theorem dX11_word_26 : decode cX11_word 26 = .ok (.bipush 7, 2) := by decide +kernel
theorem dX11_word_28 : decode cX11_word 28 = .ok (.if_icmp .gt 11, 3) := by decide +kernel
theorem dX11_word_31 : decode cX11_word 31 = .ok (.aload_n 0, 1) := by decide +kernel
theorem dX11_word_32 : decode cX11_word 32 = .ok (.getfield 77, 3) := by decide +kernel
theorem dX11_word_35 : decode cX11_word 35 = .ok (.lload_n 3, 1) := by decide +kernel
theorem dX11_word_36 : decode cX11_word 36 = .ok (.invokevirtual 235, 3) := by decide +kernel
theorem dX11_word_39 : decode cX11_word 39 = .ok (.iload_n 2, 1) := by decide +kernel
theorem dX11_word_40 : decode cX11_word 40 = .ok (.tableswitch 148 0 8 #[52, 57, 72, 84, 106, 114, 122, 130, 138], 52) := by decide +kernel
theorem dX11_word_92 : decode cX11_word 92 = .ok (.lload_n 3, 1) := by decide +kernel
theorem dX11_word_93 : decode cX11_word 93 = .ok (.invokestatic 239, 3) := by decide +kernel
theorem dX11_word_96 : decode cX11_word 96 = .ok (.ireturn, 1) := by decide +kernel
theorem dX11_word_97 : decode cX11_word 97 = .ok (.aload_n 0, 1) := by decide +kernel
theorem dX11_word_98 : decode cX11_word 98 = .ok (.getfield 23, 3) := by decide +kernel
theorem dX11_word_101 : decode cX11_word 101 = .ok (.getfield 52, 3) := by decide +kernel
theorem dX11_word_104 : decode cX11_word 104 = .ok (.getfield 198, 3) := by decide +kernel
theorem dX11_word_107 : decode cX11_word 107 = .ok (.lload_n 3, 1) := by decide +kernel
theorem dX11_word_108 : decode cX11_word 108 = .ok (.invokestatic 243, 3) := by decide +kernel
theorem dX11_word_111 : decode cX11_word 111 = .ok (.ireturn, 1) := by decide +kernel
theorem dX11_word_112 : decode cX11_word 112 = .ok (.aload_n 0, 1) := by decide +kernel
theorem dX11_word_113 : decode cX11_word 113 = .ok (.getfield 23, 3) := by decide +kernel
theorem dX11_word_116 : decode cX11_word 116 = .ok (.getfield 52, 3) := by decide +kernel
theorem dX11_word_119 : decode cX11_word 119 = .ok (.lload_n 3, 1) := by decide +kernel
theorem dX11_word_120 : decode cX11_word 120 = .ok (.invokevirtual 247, 3) := by decide +kernel
theorem dX11_word_123 : decode cX11_word 123 = .ok (.ireturn, 1) := by decide +kernel
theorem dX11_word_124 : decode cX11_word 124 = .ok (.aload_n 0, 1) := by decide +kernel
theorem dX11_word_125 : decode cX11_word 125 = .ok (.getfield 23, 3) := by decide +kernel
theorem dX11_word_128 : decode cX11_word 128 = .ok (.getfield 52, 3) := by decide +kernel
theorem dX11_word_131 : decode cX11_word 131 = .ok (.lload_n 3, 1) := by decide +kernel
theorem dX11_word_132 : decode cX11_word 132 = .ok (.iconst 0, 1) := by decide +kernel
theorem dX11_word_133 : decode cX11_word 133 = .ok (.invokevirtual 250, 3) := by decide +kernel
theorem dX11_word_136 : decode cX11_word 136 = .ok (.iconst (-1), 1) := by decide +kernel
theorem dX11_word_137 : decode cX11_word 137 = .ok (.if_icmp .ne 7, 3) := by decide +kernel
theorem dX11_word_140 : decode cX11_word 140 = .ok (.iconst 1, 1) := by decide +kernel
theorem dX11_word_141 : decode cX11_word 141 = .ok (.goto 4, 3) := by decide +kernel
theorem dX11_word_144 : decode cX11_word 144 = .ok (.iconst 0, 1) := by decide +kernel
theorem dX11_word_145 : decode cX11_word 145 = .ok (.ireturn, 1) := by decide +kernel
theorem dX11_word_146 : decode cX11_word 146 = .ok (.aload_n 0, 1) := by decide +kernel
theorem dX11_word_147 : decode cX11_word 147 = .ok (.getfield 77, 3) := by decide +kernel
theorem dX11_word_150 : decode cX11_word 150 = .ok (.getfield 253, 3) := by decide +kernel
theorem dX11_word_153 : decode cX11_word 153 = .ok (.ireturn, 1) := by decide +kernel
theorem dX11_word_154 : decode cX11_word 154 = .ok (.aload_n 0, 1) := by decide +kernel
theorem dX11_word_155 : decode cX11_word 155 = .ok (.getfield 77, 3) := by decide +kernel
theorem dX11_word_158 : decode cX11_word 158 = .ok (.getfield 254, 3) := by decide +kernel
theorem dX11_word_161 : decode cX11_word 161 = .ok (.ireturn, 1) := by decide +kernel
theorem dX11_word_162 : decode cX11_word 162 = .ok (.aload_n 0, 1) := by decide +kernel
theorem dX11_word_163 : decode cX11_word 163 = .ok (.getfield 77, 3) := by decide +kernel
theorem dX11_word_166 : decode cX11_word 166 = .ok (.getfield 257, 3) := by decide +kernel
theorem dX11_word_169 : decode cX11_word 169 = .ok (.ireturn, 1) := by decide +kernel
theorem dX11_word_170 : decode cX11_word 170 = .ok (.aload_n 0, 1) := by decide +kernel
theorem dX11_word_171 : decode cX11_word 171 = .ok (.getfield 77, 3) := by decide +kernel
theorem dX11_word_174 : decode cX11_word 174 = .ok (.getfield 260, 3) := by decide +kernel
theorem dX11_word_177 : decode cX11_word 177 = .ok (.ireturn, 1) := by decide +kernel
theorem dX11_word_178 : decode cX11_word 178 = .ok (.aload_n 0, 1) := by decide +kernel
theorem dX11_word_179 : decode cX11_word 179 = .ok (.getfield 23, 3) := by decide +kernel
theorem dX11_word_182 : decode cX11_word 182 = .ok (.getfield 263, 3) := by decide +kernel
theorem dX11_word_185 : decode cX11_word 185 = .ok (.iload_n 1, 1) := by decide +kernel
theorem dX11_word_186 : decode cX11_word 186 = .ok (.iaload, 1) := by decide +kernel
theorem dX11_word_187 : decode cX11_word 187 = .ok (.ireturn, 1) := by decide +kernel
theorem dX11_word_188 : decode cX11_word 188 = .ok (.aload_n 0, 1) := by decide +kernel
theorem dX11_word_189 : decode cX11_word 189 = .ok (.getfield 109, 3) := by decide +kernel
theorem dX11_word_192 : decode cX11_word 192 = .ok (.iload_n 1, 1) := by decide +kernel
theorem dX11_word_193 : decode cX11_word 193 = .ok (.invokevirtual 266, 3) := by decide +kernel
theorem dX11_word_196 : decode cX11_word 196 = .ok (.aload_n 0, 1) := by decide +kernel
theorem dX11_word_197 : decode cX11_word 197 = .ok (.getfield 109, 3) := by decide +kernel
theorem dX11_word_200 : decode cX11_word 200 = .ok (.getfield 269, 3) := by decide +kernel
theorem dX11_word_203 : decode cX11_word 203 = .ok (.ireturn, 1) := by decide +kernel
abbrev rmX11_word : Room := { frames := 8, cells := 2, slots := 12, locals := 141 }
noncomputable def fJX11_word_m_39 (σ : St) (x0 : Nat) (x1 : Int32) (x2 : Int32) (x3 : Int64)  : Option ((Int32 ⊕ String) × St) :=
if x2.toInt < 0 ∨ 8 < x2.toInt then
((gR σ x0 10 16).bind fun v189 =>
(isO σ v189 3).bind fun _ =>
(fX3_draw σ v189 x1).bind fun w193 =>
(gR w193 x0 10 16).bind fun v197 =>
(gI w193 v197 3 2).bind fun v200 =>
some (Sum.inl v200, w193))
else
(if x2 = 0 then
((fX10_length x3).bind fun w93 =>
some (Sum.inl w93, σ))
else
(if x2 = 1 then
((gR σ x0 10 3).bind fun v98 =>
(gR σ v98 2 0).bind fun v101 =>
(gR σ v101 8 4).bind fun v104 =>
(fX8_weighBy σ v104 x3).bind fun w108 =>
some (Sum.inl w108, σ))
else
(if x2 = 2 then
((gR σ x0 10 3).bind fun v113 =>
(gR σ v113 2 0).bind fun v116 =>
(isO σ v116 8).bind fun _ =>
(fX8_stepsOf σ v116 x3).bind fun w120 =>
some (Sum.inl w120, σ))
else
(if x2 = 3 then
((gR σ x0 10 3).bind fun v125 =>
(gR σ v125 2 0).bind fun v128 =>
(isO σ v128 8).bind fun _ =>
(fX8_stepCode σ v128 x3 0).bind fun w133 =>
if w133 = (((-1) : Int32)) then
(some (Sum.inl 1, σ))
else
(some (Sum.inl 0, σ)))
else
(if x2 = 4 then
((gR σ x0 10 10).bind fun v147 =>
(gI σ v147 6 4).bind fun v150 =>
some (Sum.inl v150, σ))
else
(if x2 = 5 then
((gR σ x0 10 10).bind fun v155 =>
(gI σ v155 6 5).bind fun v158 =>
some (Sum.inl v158, σ))
else
(if x2 = 6 then
((gR σ x0 10 10).bind fun v163 =>
(gI σ v163 6 6).bind fun v166 =>
some (Sum.inl v166, σ))
else
(if x2 = 7 then
((gR σ x0 10 10).bind fun v171 =>
(gI σ v171 6 7).bind fun v174 =>
some (Sum.inl v174, σ))
else
(if x2 = 8 then
((gR σ x0 10 3).bind fun v179 =>
(gR σ v179 2 3).bind fun v182 =>
(aI σ v182 0 x1).bind fun v186 =>
some (Sum.inl v186, σ))
else
none)))))))))
set_option maxHeartbeats 4000000 in
set_option maxRecDepth 100000 in
theorem jnX11_word_m_39 {X : xX} {σ : St} {x0 : Nat} {x1 : Int32} {x2 : Int32} {x3 : Int64}   {c : (Int32 ⊕ String) × St} (C : Ok X cX11_word 5 RX11 rmX11_word (some .int)) {adK adV : Nat → Nat} (O : OkE X adK adV) (hf : fJX11_word_m_39 σ x0 x1 x2 x3  = some c) (hE : ∀ r, c = r → zE X 2 12 (xoI r.1) r.2) : Vz X (2, 12) σ 39 [(0, .ref (x0)), (1, .int (x1)), (2, .int (x2)), (3, .long (x3))] [] := by
  unfold fJX11_word_m_39 at hf
  refine z_iload_n C dX11_word_39 40 rfl 2 rfl rfl ?_
  by_cases hc : x2.toInt < 0 ∨ 8 < x2.toInt
  · have hf := (if_pos hc).symm.trans hf
    refine z_tableOut C dX11_word_40 hc 188 (by decide) ?_
    refine z_aload_n C dX11_word_188 189 rfl 0 rfl rfl ?_
    obtain ⟨v189, hv189, hf⟩ := x_bind hf
    refine z_getR C dX11_word_189 192 rfl hv189 cl10 rfl w531 ?_
    refine z_iload_n C dX11_word_192 193 rfl 1 rfl rfl ?_
    obtain ⟨o193, ho193, hf⟩ := x_bind hf
    obtain ⟨w193, hw193, hf⟩ := x_bind hf
    refine z_callVv C dX11_word_193 196 rfl ho193 cl3.1 rfl (cX3_drawc hw193) kX3_draw kvX3_draw w1149 ⟨rfl, rfl⟩ ⟨Nat.le_of_ble_eq_true rfl, Nat.le_of_ble_eq_true rfl⟩ ⟨Nat.le_of_ble_eq_true rfl, Nat.le_of_ble_eq_true rfl⟩ rfl rfl (Nat.le_of_ble_eq_true rfl) ?_
    refine z_aload_n C dX11_word_196 197 rfl 0 rfl rfl ?_
    obtain ⟨v197, hv197, hf⟩ := x_bind hf
    refine z_getR C dX11_word_197 200 rfl hv197 cl10 rfl w531 ?_
    obtain ⟨v200, hv200, hf⟩ := x_bind hf
    refine z_getI C dX11_word_200 203 rfl hv200 cl3 rfl w460 ?_
    exact z_iret C (hE _ (Option.some.inj hf).symm) ⟨Nat.le_of_ble_eq_true rfl, Nat.le_of_ble_eq_true rfl⟩ dX11_word_203
  · have hf := (if_neg hc).symm.trans hf
    by_cases hj0 : x2 = 0
    · have hf := (if_pos hj0).symm.trans hf
      refine z_topi hj0 ?_
      refine z_tableIn C dX11_word_40 (by decide) (by decide) (off := 52) (by decide) 92 (by decide) ?_
      refine z_lload_n C dX11_word_92 93 rfl 3 rfl rfl ?_
      obtain ⟨w93, hw93, hf⟩ := x_bind hf
      refine z_callSi C dX11_word_93 96 rfl (cX10_lengthc hw93) kX10_length ksX10_length w724 ⟨rfl, rfl⟩ ⟨Nat.le_of_ble_eq_true rfl, Nat.le_of_ble_eq_true rfl⟩ ⟨Nat.le_of_ble_eq_true rfl, Nat.le_of_ble_eq_true rfl⟩ rfl rfl (Nat.le_of_ble_eq_true rfl) ?_
      exact z_iret C (hE _ (Option.some.inj hf).symm) ⟨Nat.le_of_ble_eq_true rfl, Nat.le_of_ble_eq_true rfl⟩ dX11_word_96
    · have hf := (if_neg hj0).symm.trans hf
      by_cases hj1 : x2 = 1
      · have hf := (if_pos hj1).symm.trans hf
        refine z_topi hj1 ?_
        refine z_tableIn C dX11_word_40 (by decide) (by decide) (off := 57) (by decide) 97 (by decide) ?_
        refine z_aload_n C dX11_word_97 98 rfl 0 rfl rfl ?_
        obtain ⟨v98, hv98, hf⟩ := x_bind hf
        refine z_getR C dX11_word_98 101 rfl hv98 cl10 rfl w518 ?_
        obtain ⟨v101, hv101, hf⟩ := x_bind hf
        refine z_getR C dX11_word_101 104 rfl hv101 cl2 rfl w235 ?_
        obtain ⟨v104, hv104, hf⟩ := x_bind hf
        refine z_getR C dX11_word_104 107 rfl hv104 cl8 rfl w204 ?_
        refine z_lload_n C dX11_word_107 108 rfl 3 rfl rfl ?_
        obtain ⟨w108, hw108, hf⟩ := x_bind hf
        refine z_callSi C dX11_word_108 111 rfl (cX8_weighByc hw108) kX8_weighBy ksX8_weighBy w1138 ⟨rfl, rfl⟩ ⟨Nat.le_of_ble_eq_true rfl, Nat.le_of_ble_eq_true rfl⟩ ⟨Nat.le_of_ble_eq_true rfl, Nat.le_of_ble_eq_true rfl⟩ rfl rfl (Nat.le_of_ble_eq_true rfl) ?_
        exact z_iret C (hE _ (Option.some.inj hf).symm) ⟨Nat.le_of_ble_eq_true rfl, Nat.le_of_ble_eq_true rfl⟩ dX11_word_111
      · have hf := (if_neg hj1).symm.trans hf
        by_cases hj2 : x2 = 2
        · have hf := (if_pos hj2).symm.trans hf
          refine z_topi hj2 ?_
          refine z_tableIn C dX11_word_40 (by decide) (by decide) (off := 72) (by decide) 112 (by decide) ?_
          refine z_aload_n C dX11_word_112 113 rfl 0 rfl rfl ?_
          obtain ⟨v113, hv113, hf⟩ := x_bind hf
          refine z_getR C dX11_word_113 116 rfl hv113 cl10 rfl w518 ?_
          obtain ⟨v116, hv116, hf⟩ := x_bind hf
          refine z_getR C dX11_word_116 119 rfl hv116 cl2 rfl w235 ?_
          refine z_lload_n C dX11_word_119 120 rfl 3 rfl rfl ?_
          obtain ⟨o120, ho120, hf⟩ := x_bind hf
          obtain ⟨w120, hw120, hf⟩ := x_bind hf
          refine z_callVi C dX11_word_120 123 rfl ho120 cl8.1 rfl (cX8_stepsOfc hw120) kX8_stepsOf kvX8_stepsOf w1139 ⟨rfl, rfl⟩ ⟨Nat.le_of_ble_eq_true rfl, Nat.le_of_ble_eq_true rfl⟩ ⟨Nat.le_of_ble_eq_true rfl, Nat.le_of_ble_eq_true rfl⟩ rfl rfl (Nat.le_of_ble_eq_true rfl) ?_
          exact z_iret C (hE _ (Option.some.inj hf).symm) ⟨Nat.le_of_ble_eq_true rfl, Nat.le_of_ble_eq_true rfl⟩ dX11_word_123
        · have hf := (if_neg hj2).symm.trans hf
          by_cases hj3 : x2 = 3
          · have hf := (if_pos hj3).symm.trans hf
            refine z_topi hj3 ?_
            refine z_tableIn C dX11_word_40 (by decide) (by decide) (off := 84) (by decide) 124 (by decide) ?_
            refine z_aload_n C dX11_word_124 125 rfl 0 rfl rfl ?_
            obtain ⟨v125, hv125, hf⟩ := x_bind hf
            refine z_getR C dX11_word_125 128 rfl hv125 cl10 rfl w518 ?_
            obtain ⟨v128, hv128, hf⟩ := x_bind hf
            refine z_getR C dX11_word_128 131 rfl hv128 cl2 rfl w235 ?_
            refine z_lload_n C dX11_word_131 132 rfl 3 rfl rfl ?_
            refine z_iconst C dX11_word_132 133 rfl 0 (by decide) ?_
            obtain ⟨o133, ho133, hf⟩ := x_bind hf
            obtain ⟨w133, hw133, hf⟩ := x_bind hf
            refine z_callVi C dX11_word_133 136 rfl ho133 cl8.1 rfl (cX8_stepCodec hw133) kX8_stepCode kvX8_stepCode w1144 ⟨rfl, rfl⟩ ⟨Nat.le_of_ble_eq_true rfl, Nat.le_of_ble_eq_true rfl⟩ ⟨Nat.le_of_ble_eq_true rfl, Nat.le_of_ble_eq_true rfl⟩ rfl rfl (Nat.le_of_ble_eq_true rfl) ?_
            refine z_iconst C dX11_word_136 137 rfl (-1) (by decide) ?_
            refine z_icmp_ne C dX11_word_137 144 (by decide) 140 rfl (fun hc => ?_) (fun hc => ?_)
            · have hf := (if_neg hc).symm.trans hf
              refine z_iconst C dX11_word_144 145 rfl 0 (by decide) ?_
              exact z_iret C (hE _ (Option.some.inj hf).symm) ⟨Nat.le_of_ble_eq_true rfl, Nat.le_of_ble_eq_true rfl⟩ dX11_word_145
            · have hf := (if_pos hc).symm.trans hf
              refine z_iconst C dX11_word_140 141 rfl 1 (by decide) ?_
              refine z_goto C dX11_word_141 145 (by decide) ?_
              exact z_iret C (hE _ (Option.some.inj hf).symm) ⟨Nat.le_of_ble_eq_true rfl, Nat.le_of_ble_eq_true rfl⟩ dX11_word_145
          · have hf := (if_neg hj3).symm.trans hf
            by_cases hj4 : x2 = 4
            · have hf := (if_pos hj4).symm.trans hf
              refine z_topi hj4 ?_
              refine z_tableIn C dX11_word_40 (by decide) (by decide) (off := 106) (by decide) 146 (by decide) ?_
              refine z_aload_n C dX11_word_146 147 rfl 0 rfl rfl ?_
              obtain ⟨v147, hv147, hf⟩ := x_bind hf
              refine z_getR C dX11_word_147 150 rfl hv147 cl10 rfl w525 ?_
              obtain ⟨v150, hv150, hf⟩ := x_bind hf
              refine z_getI C dX11_word_150 153 rfl hv150 cl6 rfl w375 ?_
              exact z_iret C (hE _ (Option.some.inj hf).symm) ⟨Nat.le_of_ble_eq_true rfl, Nat.le_of_ble_eq_true rfl⟩ dX11_word_153
            · have hf := (if_neg hj4).symm.trans hf
              by_cases hj5 : x2 = 5
              · have hf := (if_pos hj5).symm.trans hf
                refine z_topi hj5 ?_
                refine z_tableIn C dX11_word_40 (by decide) (by decide) (off := 114) (by decide) 154 (by decide) ?_
                refine z_aload_n C dX11_word_154 155 rfl 0 rfl rfl ?_
                obtain ⟨v155, hv155, hf⟩ := x_bind hf
                refine z_getR C dX11_word_155 158 rfl hv155 cl10 rfl w525 ?_
                obtain ⟨v158, hv158, hf⟩ := x_bind hf
                refine z_getI C dX11_word_158 161 rfl hv158 cl6 rfl w377 ?_
                exact z_iret C (hE _ (Option.some.inj hf).symm) ⟨Nat.le_of_ble_eq_true rfl, Nat.le_of_ble_eq_true rfl⟩ dX11_word_161
              · have hf := (if_neg hj5).symm.trans hf
                by_cases hj6 : x2 = 6
                · have hf := (if_pos hj6).symm.trans hf
                  refine z_topi hj6 ?_
                  refine z_tableIn C dX11_word_40 (by decide) (by decide) (off := 122) (by decide) 162 (by decide) ?_
                  refine z_aload_n C dX11_word_162 163 rfl 0 rfl rfl ?_
                  obtain ⟨v163, hv163, hf⟩ := x_bind hf
                  refine z_getR C dX11_word_163 166 rfl hv163 cl10 rfl w525 ?_
                  obtain ⟨v166, hv166, hf⟩ := x_bind hf
                  refine z_getI C dX11_word_166 169 rfl hv166 cl6 rfl w379 ?_
                  exact z_iret C (hE _ (Option.some.inj hf).symm) ⟨Nat.le_of_ble_eq_true rfl, Nat.le_of_ble_eq_true rfl⟩ dX11_word_169
                · have hf := (if_neg hj6).symm.trans hf
                  by_cases hj7 : x2 = 7
                  · have hf := (if_pos hj7).symm.trans hf
                    refine z_topi hj7 ?_
                    refine z_tableIn C dX11_word_40 (by decide) (by decide) (off := 130) (by decide) 170 (by decide) ?_
                    refine z_aload_n C dX11_word_170 171 rfl 0 rfl rfl ?_
                    obtain ⟨v171, hv171, hf⟩ := x_bind hf
                    refine z_getR C dX11_word_171 174 rfl hv171 cl10 rfl w525 ?_
                    obtain ⟨v174, hv174, hf⟩ := x_bind hf
                    refine z_getI C dX11_word_174 177 rfl hv174 cl6 rfl w381 ?_
                    exact z_iret C (hE _ (Option.some.inj hf).symm) ⟨Nat.le_of_ble_eq_true rfl, Nat.le_of_ble_eq_true rfl⟩ dX11_word_177
                  · have hf := (if_neg hj7).symm.trans hf
                    by_cases hj8 : x2 = 8
                    · have hf := (if_pos hj8).symm.trans hf
                      refine z_topi hj8 ?_
                      refine z_tableIn C dX11_word_40 (by decide) (by decide) (off := 138) (by decide) 178 (by decide) ?_
                      refine z_aload_n C dX11_word_178 179 rfl 0 rfl rfl ?_
                      obtain ⟨v179, hv179, hf⟩ := x_bind hf
                      refine z_getR C dX11_word_179 182 rfl hv179 cl10 rfl w518 ?_
                      obtain ⟨v182, hv182, hf⟩ := x_bind hf
                      refine z_getR C dX11_word_182 185 rfl hv182 cl2 rfl w244 ?_
                      refine z_iload_n C dX11_word_185 186 rfl 1 rfl rfl ?_
                      obtain ⟨v186, hv186, hf⟩ := x_bind hf
                      refine z_iaload C dX11_word_186 187 rfl hv186 ?_
                      exact z_iret C (hE _ (Option.some.inj hf).symm) ⟨Nat.le_of_ble_eq_true rfl, Nat.le_of_ble_eq_true rfl⟩ dX11_word_187
                    · have hf := (if_neg hj8).symm.trans hf
                      cases hf
noncomputable def fX11_word (σ : St) (x0 : Nat) (x1 : Int32) (x2 : Int32) : Option ((Int32 ⊕ String) × St) :=
(fX11_needPlace σ x1).bind fun w1 =>
(match w1 with
| (Sum.inl _, σ1) =>
(fX11_needWhat σ1 x2 9).bind fun w7 =>
(match w7 with
| (Sum.inl _, σ7) =>
(gR σ7 x0 10 3).bind fun v11 =>
(gR σ7 v11 2 2).bind fun v14 =>
(aL σ7 v14 x1).bind fun v18 =>
if x2 < ((4 : Int32)) then
(fJX11_word_m_39 σ7 x0 x1 x2 v18)
else
(if ((7 : Int32)) < x2 then
(fJX11_word_m_39 σ7 x0 x1 x2 v18)
else
((gR σ7 x0 10 10).bind fun v32 =>
(isO σ7 v32 6).bind fun _ =>
(fX6_spread σ7 v32 v18).bind fun w36 =>
fJX11_word_m_39 w36 x0 x1 x2 v18))
| (Sum.inr E7, σ7) =>
some (Sum.inr E7, σ7))
| (Sum.inr E1, σ1) =>
some (Sum.inr E1, σ1))
set_option maxHeartbeats 4000000 in
set_option maxRecDepth 100000 in
theorem cX11_wordc {l : Launch} (hst : l.stackTraces = false) {adK adV : Nat → Nat} {G : xG} {A : Nat → Prop} {σ : St} {x0 : Nat} {x1 : Int32} {x2 : Int32} {c : (Int32 ⊕ String) × St} (hf : fX11_word σ x0 x1 x2 = some c) : ConX l yX11_word (xws yX11_word cX11_word 5 (some .int)) rmX11_word 2 12 [.ref (x0), .int (x1), .int (x2)] adK adV G A σ (xoI c.1) c.2 := by
  refine z_start hst rfl (Nat.le_of_ble_eq_true rfl) (fun X _ _ _ C O hE0 => ?_)
  have hE : ∀ r, c = r → zE X 2 12 (xoI r.1) r.2 := fun r e => e ▸ hE0
  show Vz X (0, 0) σ 0 [(0, .ref (x0)), (1, .int (x1)), (2, .int (x2))] []
  unfold fX11_word at hf
  refine z_iload_n C dX11_word_0 1 rfl 1 rfl rfl ?_
  obtain ⟨⟨r1, σ1⟩, hw1, hf⟩ := x_bind hf
  cases r1 with
  | inl _ =>
    dsimp only at hf
    refine z_cSn C O.2.2 dX11_word_1 4 rfl (cX11_needPlacec O.1 hw1) kX11_needPlace ksX11_needPlace w1111 ⟨rfl, rfl⟩ ⟨Nat.le_of_ble_eq_true rfl, Nat.le_of_ble_eq_true rfl⟩ ⟨Nat.le_of_ble_eq_true rfl, Nat.le_of_ble_eq_true rfl⟩ rfl rfl (Nat.le_of_ble_eq_true rfl) (1, 6) rfl ?_
    refine z_iload_n C dX11_word_4 5 rfl 2 rfl rfl ?_
    refine z_bipush C dX11_word_5 7 rfl 9 (by decide) ?_
    obtain ⟨⟨r7, σ7⟩, hw7, hf⟩ := x_bind hf
    cases r7 with
    | inl _ =>
      dsimp only at hf
      refine z_cSn C O.2.2 dX11_word_7 10 rfl (cX11_needWhatc O.1 hw7) kX11_needWhat ksX11_needWhat w1066 ⟨rfl, rfl⟩ ⟨Nat.le_of_ble_eq_true rfl, Nat.le_of_ble_eq_true rfl⟩ ⟨Nat.le_of_ble_eq_true rfl, Nat.le_of_ble_eq_true rfl⟩ rfl rfl (Nat.le_of_ble_eq_true rfl) (2, 12) rfl ?_
      refine z_aload_n C dX11_word_10 11 rfl 0 rfl rfl ?_
      obtain ⟨v11, hv11, hf⟩ := x_bind hf
      refine z_getR C dX11_word_11 14 rfl hv11 cl10 rfl w518 ?_
      obtain ⟨v14, hv14, hf⟩ := x_bind hf
      refine z_getR C dX11_word_14 17 rfl hv14 cl2 rfl w241 ?_
      refine z_iload_n C dX11_word_17 18 rfl 1 rfl rfl ?_
      obtain ⟨v18, hv18, hf⟩ := x_bind hf
      refine z_laload C dX11_word_18 19 rfl hv18 ?_
      refine z_lstore_n C dX11_word_19 20 rfl rfl rfl [(3, .long (v18)), (0, .ref (x0)), (1, .int (x1)), (2, .int (x2))] rfl ?_
      refine z_iload_n C dX11_word_20 21 rfl 3 rfl rfl ?_
      refine z_iconst C dX11_word_21 22 rfl 4 (by decide) ?_
      refine z_icmp_lt C dX11_word_22 39 (by decide) 25 rfl (fun hc => ?_) (fun hc => ?_)
      · have hf := (if_pos hc).symm.trans hf
        refine z_lv [1, 2, 3, 0] (lv' := [(0, .ref (x0)), (1, .int (x1)), (2, .int (x2)), (3, .long (v18))]) rfl ?_
        exact jnX11_word_m_39 C O hf hE
      · have hf := (if_neg hc).symm.trans hf
        refine z_iload_n C dX11_word_25 26 rfl 3 rfl rfl ?_
        refine z_bipush C dX11_word_26 28 rfl 7 (by decide) ?_
        refine z_icmp_gt C dX11_word_28 39 (by decide) 31 rfl (fun hc => ?_) (fun hc => ?_)
        · have hf := (if_pos hc).symm.trans hf
          refine z_lv [1, 2, 3, 0] (lv' := [(0, .ref (x0)), (1, .int (x1)), (2, .int (x2)), (3, .long (v18))]) rfl ?_
          exact jnX11_word_m_39 C O hf hE
        · have hf := (if_neg hc).symm.trans hf
          refine z_aload_n C dX11_word_31 32 rfl 1 rfl rfl ?_
          obtain ⟨v32, hv32, hf⟩ := x_bind hf
          refine z_getR C dX11_word_32 35 rfl hv32 cl10 rfl w525 ?_
          refine z_lload_n C dX11_word_35 36 rfl 0 rfl rfl ?_
          obtain ⟨o36, ho36, hf⟩ := x_bind hf
          obtain ⟨w36, hw36, hf⟩ := x_bind hf
          refine z_callVv C dX11_word_36 39 rfl ho36 cl6.1 rfl (cX6_spreadc hw36) kX6_spread kvX6_spread w1114 ⟨rfl, rfl⟩ ⟨Nat.le_of_ble_eq_true rfl, Nat.le_of_ble_eq_true rfl⟩ ⟨Nat.le_of_ble_eq_true rfl, Nat.le_of_ble_eq_true rfl⟩ rfl rfl (Nat.le_of_ble_eq_true rfl) ?_
          refine z_lv [1, 2, 3, 0] (lv' := [(0, .ref (x0)), (1, .int (x1)), (2, .int (x2)), (3, .long (v18))]) rfl ?_
          exact jnX11_word_m_39 C O hf hE
    | inr E7 =>
      dsimp only at hf
      exact z_cSt C O dX11_word_7 (cX11_needWhatc O.1 hw7) kX11_needWhat ksX11_needWhat w1066 ⟨rfl, rfl⟩ ⟨Nat.le_of_ble_eq_true rfl, Nat.le_of_ble_eq_true rfl⟩ ⟨Nat.le_of_ble_eq_true rfl, Nat.le_of_ble_eq_true rfl⟩ rfl rfl (Nat.le_of_ble_eq_true rfl) ⟨Nat.le_of_ble_eq_true rfl, Nat.le_of_ble_eq_true rfl⟩ (hE _ (Option.some.inj hf).symm)
  | inr E1 =>
    dsimp only at hf
    exact z_cSt C O dX11_word_1 (cX11_needPlacec O.1 hw1) kX11_needPlace ksX11_needPlace w1111 ⟨rfl, rfl⟩ ⟨Nat.le_of_ble_eq_true rfl, Nat.le_of_ble_eq_true rfl⟩ ⟨Nat.le_of_ble_eq_true rfl, Nat.le_of_ble_eq_true rfl⟩ rfl rfl (Nat.le_of_ble_eq_true rfl) ⟨Nat.le_of_ble_eq_true rfl, Nat.le_of_ble_eq_true rfl⟩ (hE _ (Option.some.inj hf).symm)
