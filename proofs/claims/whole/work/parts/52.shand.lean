theorem dJ0_coder_7d493_0 : decode cJ0_coder_7d493 0 = .ok (.getstatic 38, 3) := by decide +kernel
theorem dJ0_coder_7d493_3 : decode cJ0_coder_7d493 3 = .ok (.ifCond .eq 10, 3) := by decide +kernel
theorem dJ0_coder_7d493_6 : decode cJ0_coder_7d493 6 = .ok (.aload_n 0, 1) := by decide +kernel
theorem dJ0_coder_7d493_7 : decode cJ0_coder_7d493 7 = .ok (.getfield 15, 3) := by decide +kernel
theorem dJ0_coder_7d493_10 : decode cJ0_coder_7d493 10 = .ok (.goto 4, 3) := by decide +kernel
theorem dJ0_coder_7d493_13 : decode cJ0_coder_7d493 13 = .ok (.iconst 1, 1) := by decide +kernel
theorem dJ0_coder_7d493_14 : decode cJ0_coder_7d493 14 = .ok (.ireturn, 1) := by decide +kernel
theorem dJ0_isLatin1_aae02_0 : decode cJ0_isLatin1_aae02 0 = .ok (.getstatic 38, 3) := by decide +kernel
theorem dJ0_isLatin1_aae02_3 : decode cJ0_isLatin1_aae02 3 = .ok (.ifCond .eq 14, 3) := by decide +kernel
theorem dJ0_isLatin1_aae02_6 : decode cJ0_isLatin1_aae02 6 = .ok (.aload_n 0, 1) := by decide +kernel
theorem dJ0_isLatin1_aae02_7 : decode cJ0_isLatin1_aae02 7 = .ok (.getfield 15, 3) := by decide +kernel
theorem dJ0_isLatin1_aae02_10 : decode cJ0_isLatin1_aae02 10 = .ok (.ifCond .ne 7, 3) := by decide +kernel
theorem dJ0_isLatin1_aae02_13 : decode cJ0_isLatin1_aae02 13 = .ok (.iconst 1, 1) := by decide +kernel
theorem dJ0_isLatin1_aae02_14 : decode cJ0_isLatin1_aae02 14 = .ok (.goto 4, 3) := by decide +kernel
theorem dJ0_isLatin1_aae02_17 : decode cJ0_isLatin1_aae02 17 = .ok (.iconst 0, 1) := by decide +kernel
theorem dJ0_isLatin1_aae02_18 : decode cJ0_isLatin1_aae02 18 = .ok (.ireturn, 1) := by decide +kernel
theorem dJ0_length_8abf5_0 : decode cJ0_length_8abf5 0 = .ok (.aload_n 0, 1) := by decide +kernel
theorem dJ0_length_8abf5_1 : decode cJ0_length_8abf5 1 = .ok (.getfield 9, 3) := by decide +kernel
theorem dJ0_length_8abf5_4 : decode cJ0_length_8abf5 4 = .ok (.arraylength, 1) := by decide +kernel
theorem dJ0_length_8abf5_5 : decode cJ0_length_8abf5 5 = .ok (.aload_n 0, 1) := by decide +kernel
theorem dJ0_length_8abf5_6 : decode cJ0_length_8abf5 6 = .ok (.invokevirtual 335, 3) := by decide +kernel
theorem dJ0_length_8abf5_9 : decode cJ0_length_8abf5 9 = .ok (.ishr, 1) := by decide +kernel
theorem dJ0_length_8abf5_10 : decode cJ0_length_8abf5 10 = .ok (.ireturn, 1) := by decide +kernel
theorem dJ3_checkIndex_8e157_0 : decode cJ3_checkIndex_8e157 0 = .ok (.iload_n 0, 1) := by decide +kernel
theorem dJ3_checkIndex_8e157_1 : decode cJ3_checkIndex_8e157 1 = .ok (.ifCond .lt 8, 3) := by decide +kernel
theorem dJ3_checkIndex_8e157_4 : decode cJ3_checkIndex_8e157 4 = .ok (.iload_n 0, 1) := by decide +kernel
theorem dJ3_checkIndex_8e157_5 : decode cJ3_checkIndex_8e157 5 = .ok (.iload_n 1, 1) := by decide +kernel
theorem dJ3_checkIndex_8e157_6 : decode cJ3_checkIndex_8e157 6 = .ok (.if_icmp .lt 10, 3) := by decide +kernel
theorem dJ3_checkIndex_8e157_9 : decode cJ3_checkIndex_8e157 9 = .ok (.aload_n 2, 1) := by decide +kernel
theorem dJ3_checkIndex_8e157_10 : decode cJ3_checkIndex_8e157 10 = .ok (.iload_n 0, 1) := by decide +kernel
theorem dJ3_checkIndex_8e157_11 : decode cJ3_checkIndex_8e157 11 = .ok (.iload_n 1, 1) := by decide +kernel
theorem dJ3_checkIndex_8e157_12 : decode cJ3_checkIndex_8e157 12 = .ok (.invokestatic 95, 3) := by decide +kernel
theorem dJ3_checkIndex_8e157_15 : decode cJ3_checkIndex_8e157 15 = .ok (.athrow, 1) := by decide +kernel
theorem dJ3_checkIndex_8e157_16 : decode cJ3_checkIndex_8e157 16 = .ok (.iload_n 0, 1) := by decide +kernel
theorem dJ3_checkIndex_8e157_17 : decode cJ3_checkIndex_8e157 17 = .ok (.ireturn, 1) := by decide +kernel
theorem dJ0_checkIndex_df160_0 : decode cJ0_checkIndex_df160 0 = .ok (.iload_n 0, 1) := by decide +kernel
theorem dJ0_checkIndex_df160_1 : decode cJ0_checkIndex_df160 1 = .ok (.iload_n 1, 1) := by decide +kernel
theorem dJ0_checkIndex_df160_2 : decode cJ0_checkIndex_df160 2 = .ok (.getstatic 1053, 3) := by decide +kernel
theorem dJ0_checkIndex_df160_5 : decode cJ0_checkIndex_df160 5 = .ok (.invokestatic 1059, 3) := by decide +kernel
theorem dJ0_checkIndex_df160_8 : decode cJ0_checkIndex_df160 8 = .ok (.pop, 1) := by decide +kernel
theorem dJ0_checkIndex_df160_9 : decode cJ0_checkIndex_df160 9 = .ok (.return_, 1) := by decide +kernel
theorem dJ1_charAt_3b067_0 : decode cJ1_charAt_3b067 0 = .ok (.iload_n 1, 1) := by decide +kernel
theorem dJ1_charAt_3b067_1 : decode cJ1_charAt_3b067 1 = .ok (.aload_n 0, 1) := by decide +kernel
theorem dJ1_charAt_3b067_2 : decode cJ1_charAt_3b067 2 = .ok (.arraylength, 1) := by decide +kernel
theorem dJ1_charAt_3b067_3 : decode cJ1_charAt_3b067 3 = .ok (.invokestatic 9, 3) := by decide +kernel
theorem dJ1_charAt_3b067_6 : decode cJ1_charAt_3b067 6 = .ok (.aload_n 0, 1) := by decide +kernel
theorem dJ1_charAt_3b067_7 : decode cJ1_charAt_3b067 7 = .ok (.iload_n 1, 1) := by decide +kernel
theorem dJ1_charAt_3b067_8 : decode cJ1_charAt_3b067 8 = .ok (.baload, 1) := by decide +kernel
theorem dJ1_charAt_3b067_9 : decode cJ1_charAt_3b067 9 = .ok (.sipush 255, 3) := by decide +kernel
theorem dJ1_charAt_3b067_12 : decode cJ1_charAt_3b067 12 = .ok (.iand, 1) := by decide +kernel
theorem dJ1_charAt_3b067_13 : decode cJ1_charAt_3b067 13 = .ok (.i2c, 1) := by decide +kernel
theorem dJ1_charAt_3b067_14 : decode cJ1_charAt_3b067 14 = .ok (.ireturn, 1) := by decide +kernel
theorem dJ0_charAt_5068e_0 : decode cJ0_charAt_5068e 0 = .ok (.aload_n 0, 1) := by decide +kernel
theorem dJ0_charAt_5068e_1 : decode cJ0_charAt_5068e 1 = .ok (.invokevirtual 492, 3) := by decide +kernel
theorem dJ0_charAt_5068e_4 : decode cJ0_charAt_5068e 4 = .ok (.ifCond .eq 12, 3) := by decide +kernel
theorem dJ0_charAt_5068e_7 : decode cJ0_charAt_5068e 7 = .ok (.aload_n 0, 1) := by decide +kernel
theorem dJ0_charAt_5068e_8 : decode cJ0_charAt_5068e 8 = .ok (.getfield 9, 3) := by decide +kernel
theorem dJ0_charAt_5068e_11 : decode cJ0_charAt_5068e 11 = .ok (.iload_n 1, 1) := by decide +kernel
theorem dJ0_charAt_5068e_12 : decode cJ0_charAt_5068e 12 = .ok (.invokestatic 495, 3) := by decide +kernel
theorem dJ0_charAt_5068e_15 : decode cJ0_charAt_5068e 15 = .ok (.ireturn, 1) := by decide +kernel
theorem dJ0_charAt_5068e_16 : decode cJ0_charAt_5068e 16 = .ok (.aload_n 0, 1) := by decide +kernel
theorem dJ0_charAt_5068e_17 : decode cJ0_charAt_5068e 17 = .ok (.getfield 9, 3) := by decide +kernel
theorem dJ0_charAt_5068e_20 : decode cJ0_charAt_5068e 20 = .ok (.iload_n 1, 1) := by decide +kernel
theorem dJ0_charAt_5068e_21 : decode cJ0_charAt_5068e 21 = .ok (.invokestatic 498, 3) := by decide +kernel
theorem dJ0_charAt_5068e_24 : decode cJ0_charAt_5068e 24 = .ok (.ireturn, 1) := by decide +kernel
/-! the JDK's own members that are asked of a String constant -/
abbrev rmJcod : Room := { frames := 0, cells := 0, slots := 0, locals := 0 }
abbrev rmJlen : Room := { frames := 1, cells := 0, slots := 0, locals := 20 }
abbrev rmJck : Room := { frames := 1, cells := 0, slots := 0, locals := 22 }
abbrev rmJl1 : Room := { frames := 2, cells := 0, slots := 0, locals := 43 }
abbrev rmJch : Room := { frames := 3, cells := 0, slots := 0, locals := 64 }
theorem cs_coder {l : Launch} {adK adV : Nat → Nat} {G : xG} {A : Nat → Prop} {σ : St} {i : Nat} (hi : i < 16) : ConS l yJ0_coder_7d493 (xws yJ0_coder_7d493 cJ0_coder_7d493 1 (some .byte)) rmJcod [.ref (adK i)] adK adV G A σ (some (.int 0)) σ := by
  refine s_startF (by decide) (Nat.le_of_ble_eq_true rfl) (fun X _ _ _ C Ev hE => ?_)
  show V X (0, 0) σ 0 [(0, .ref (adK i))] []
  refine x_gets C Ev dJ0_coder_7d493_0 3 rfl w862 ?_
  refine x_if_eq C dJ0_coder_7d493_3 13 (by decide) 6 rfl (fun hc => absurd hc (by decide)) (fun _ => ?_)
  refine x_aload_n C dJ0_coder_7d493_6 7 rfl 0 rfl rfl ?_
  refine x_strcod C Ev hi dJ0_coder_7d493_7 10 rfl w2143 ?_
  refine x_goto C dJ0_coder_7d493_10 14 (by decide) ?_
  exact x_nret C rfl hE dJ0_coder_7d493_14
theorem cs_isLatin1 {l : Launch} {adK adV : Nat → Nat} {G : xG} {A : Nat → Prop} {σ : St} {i : Nat} (hi : i < 16) : ConS l yJ0_isLatin1_aae02 (xws yJ0_isLatin1_aae02 cJ0_isLatin1_aae02 1 (some .boolean)) rmJcod [.ref (adK i)] adK adV G A σ (some (.int 1)) σ := by
  refine s_startF (by decide) (Nat.le_of_ble_eq_true rfl) (fun X _ _ _ C Ev hE => ?_)
  show V X (0, 0) σ 0 [(0, .ref (adK i))] []
  refine x_gets C Ev dJ0_isLatin1_aae02_0 3 rfl w862 ?_
  refine x_if_eq C dJ0_isLatin1_aae02_3 17 (by decide) 6 rfl (fun hc => absurd hc (by decide)) (fun _ => ?_)
  refine x_aload_n C dJ0_isLatin1_aae02_6 7 rfl 0 rfl rfl ?_
  refine x_strcod C Ev hi dJ0_isLatin1_aae02_7 10 rfl w2143 ?_
  refine x_if_ne C dJ0_isLatin1_aae02_10 17 (by decide) 13 rfl (fun hc => absurd rfl hc) (fun _ => ?_)
  refine x_iconst C dJ0_isLatin1_aae02_13 14 rfl 1 (by decide) ?_
  refine x_goto C dJ0_isLatin1_aae02_14 18 (by decide) ?_
  exact x_nret C rfl hE dJ0_isLatin1_aae02_18
theorem cs_length {l : Launch} {adK adV : Nat → Nat} {G : xG} {A : Nat → Prop} {σ : St} {i : Nat} (hi : i < 16) : ConS l yJ0_length_8abf5 (xws yJ0_length_8abf5 cJ0_length_8abf5 1 (some .int)) rmJlen [.ref (adK i)] adK adV G A σ (some (.int (nI (xLen.getD i 0)))) σ := by
  refine s_startF (by decide) (Nat.le_of_ble_eq_true rfl) (fun X _ _ _ C Ev hE => ?_)
  show V X (0, 0) σ 0 [(0, .ref (adK i))] []
  refine x_aload_n C dJ0_length_8abf5_0 1 rfl 0 rfl rfl ?_
  refine x_strval C Ev hi dJ0_length_8abf5_1 4 rfl w2142 ?_
  refine x_strlen C Ev hi dJ0_length_8abf5_4 5 rfl ?_
  refine x_aload_n C dJ0_length_8abf5_5 6 rfl 0 rfl rfl ?_
  refine y_callK C Ev hi dJ0_length_8abf5_6 9 rfl rfl (cs_coder hi) kJ0_coder_7d493 kvJ0_coder_7d493 w858 ⟨rfl, rfl⟩ ⟨Nat.le_of_ble_eq_true rfl, Nat.le_of_ble_eq_true rfl⟩ ⟨Nat.zero_le _, Nat.zero_le _⟩ rfl rfl (Nat.le_of_ble_eq_true rfl) [.int 0, .int (nI (xLen.getD i 0))] rfl ?_
  refine x_ishr C dJ0_length_8abf5_9 10 rfl ?_
  refine x_topi (sc_shr0 (Nat.lt_trans (xLen_small i hi) (by decide))) ?_
  exact x_iret C hE dJ0_length_8abf5_10
theorem cs_pre {l : Launch} {adK adV : Nat → Nat} {G : xG} {A : Nat → Prop} {σ : St} {j n : Int32} {fv : Value} (h1 : ¬ j < 0) (h2 : j < n) (hfv : fv = .null ∨ ∃ t, fv = .ref t) : ConS l yJ3_checkIndex_8e157 (xws yJ3_checkIndex_8e157 cJ3_checkIndex_8e157 3 (some .int)) rmJcod [.int j, .int n, fv] adK adV G A σ (some (.int j)) σ := by
  rcases hfv with rfl | ⟨t, rfl⟩
  · refine s_startF (by decide) (Nat.le_of_ble_eq_true rfl) (fun X _ _ _ C Ev hE => ?_)
    show V X (0, 0) σ 0 [(0, .int j), (1, .int n), (2, .null)] []
    refine x_iload_n C dJ3_checkIndex_8e157_0 1 rfl 0 rfl rfl ?_
    refine x_if_lt C dJ3_checkIndex_8e157_1 9 (by decide) 4 rfl (fun hc => absurd hc h1) (fun _ => ?_)
    refine x_iload_n C dJ3_checkIndex_8e157_4 5 rfl 0 rfl rfl ?_
    refine x_iload_n C dJ3_checkIndex_8e157_5 6 rfl 1 rfl rfl ?_
    refine x_icmp_lt C dJ3_checkIndex_8e157_6 16 (by decide) 9 rfl (fun _ => ?_) (fun hc => absurd h2 hc)
    refine x_iload_n C dJ3_checkIndex_8e157_16 17 rfl 0 rfl rfl ?_
    exact x_iret C hE dJ3_checkIndex_8e157_17
  · refine s_startF (by decide) (Nat.le_of_ble_eq_true rfl) (fun X _ _ _ C Ev hE => ?_)
    show V X (0, 0) σ 0 [(0, .int j), (1, .int n), (2, .ref t)] []
    refine x_iload_n C dJ3_checkIndex_8e157_0 1 rfl 0 rfl rfl ?_
    refine x_if_lt C dJ3_checkIndex_8e157_1 9 (by decide) 4 rfl (fun hc => absurd hc h1) (fun _ => ?_)
    refine x_iload_n C dJ3_checkIndex_8e157_4 5 rfl 0 rfl rfl ?_
    refine x_iload_n C dJ3_checkIndex_8e157_5 6 rfl 1 rfl rfl ?_
    refine x_icmp_lt C dJ3_checkIndex_8e157_6 16 (by decide) 9 rfl (fun _ => ?_) (fun hc => absurd h2 hc)
    refine x_iload_n C dJ3_checkIndex_8e157_16 17 rfl 0 rfl rfl ?_
    exact x_iret C hE dJ3_checkIndex_8e157_17
theorem cs_check {l : Launch} {adK adV : Nat → Nat} {G : xG} {A : Nat → Prop} {σ : St} {j n : Int32} (h1 : ¬ j < 0) (h2 : j < n) : ConS l yJ0_checkIndex_df160 (xws yJ0_checkIndex_df160 cJ0_checkIndex_df160 2 none) rmJck [.int j, .int n] adK adV G A σ none σ := by
  refine s_startF (by decide) (Nat.le_of_ble_eq_true rfl) (fun X _ _ _ C Ev hE => ?_)
  show V X (0, 0) σ 0 [(0, .int j), (1, .int n)] []
  refine x_iload_n C dJ0_checkIndex_df160_0 1 rfl 0 rfl rfl ?_
  refine x_iload_n C dJ0_checkIndex_df160_1 2 rfl 1 rfl rfl ?_
  refine x_getsq C Ev dJ0_checkIndex_df160_2 5 rfl w878 ?_ (fun t => ?_)
  · refine y_callS C Ev dJ0_checkIndex_df160_5 8 rfl (cs_pre h1 h2 (fv := .null) (Or.inl rfl)) kJ3_checkIndex_8e157 ksJ3_checkIndex_8e157 w880 ⟨rfl, rfl⟩ ⟨Nat.le_of_ble_eq_true rfl, Nat.le_of_ble_eq_true rfl⟩ ⟨Nat.zero_le _, Nat.zero_le _⟩ rfl rfl (Nat.le_of_ble_eq_true rfl) [.int j] rfl ?_
    refine x_pop C dJ0_checkIndex_df160_8 9 rfl rfl ?_
    exact x_vret C hE dJ0_checkIndex_df160_9
  · refine y_callS C Ev dJ0_checkIndex_df160_5 8 rfl (cs_pre h1 h2 (fv := .ref t) (Or.inr ⟨t, rfl⟩)) kJ3_checkIndex_8e157 ksJ3_checkIndex_8e157 w880 ⟨rfl, rfl⟩ ⟨Nat.le_of_ble_eq_true rfl, Nat.le_of_ble_eq_true rfl⟩ ⟨Nat.zero_le _, Nat.zero_le _⟩ rfl rfl (Nat.le_of_ble_eq_true rfl) [.int j] rfl ?_
    refine x_pop C dJ0_checkIndex_df160_8 9 rfl rfl ?_
    exact x_vret C hE dJ0_checkIndex_df160_9
theorem vp_in_lt {j : Int32} {n : Nat} (hn : n < 100) (h : vp_in j n) : ¬ j < 0 ∧ j < nI n ∧ j.toNatClampNeg < n := by
  have h2 : j.toNatClampNeg < n := Nat.not_le.mp (fun q => h (Or.inr q))
  obtain ⟨q, hq, rfl⟩ := vp_in_of h (by omega)
  exact ⟨fun hc => h (Or.inl hc), nI_lt hq (by omega), h2⟩
theorem cs_l1 {l : Launch} {adK adV : Nat → Nat} {G : xG} {A : Nat → Prop} {σ : St} {i : Nat} {j : Int32} (hi : i < 16) (hj : vp_in j (xLen.getD i 0)) : ConS l yJ1_charAt_3b067 (xws yJ1_charAt_3b067 cJ1_charAt_3b067 2 (some .char)) rmJl1 [.ref (adV i), .int j] adK adV G A σ (some (.int ((xByt.getD i []).getD j.toNatClampNeg 0))) σ := by
  obtain ⟨h1, h2, h3⟩ := vp_in_lt (xLen_small i hi) hj
  have hc := xByt_char i hi j.toNatClampNeg (Nat.lt_trans h3 (xLen_40 i hi))
  refine s_startF (by decide) (Nat.le_of_ble_eq_true rfl) (fun X _ _ _ C Ev hE => ?_)
  show V X (0, 0) σ 0 [(0, .ref (adV i)), (1, .int j)] []
  refine x_iload_n C dJ1_charAt_3b067_0 1 rfl 1 rfl rfl ?_
  refine x_aload_n C dJ1_charAt_3b067_1 2 rfl 0 rfl rfl ?_
  refine x_strlen C Ev hi dJ1_charAt_3b067_2 3 rfl ?_
  refine y_callS C Ev dJ1_charAt_3b067_3 6 rfl (cs_check h1 h2) kJ0_checkIndex_df160 ksJ0_checkIndex_df160 w875 ⟨rfl, rfl⟩ ⟨Nat.le_of_ble_eq_true rfl, Nat.le_of_ble_eq_true rfl⟩ ⟨Nat.zero_le _, Nat.zero_le _⟩ rfl rfl (Nat.le_of_ble_eq_true rfl) [] rfl ?_
  refine x_aload_n C dJ1_charAt_3b067_6 7 rfl 0 rfl rfl ?_
  refine x_iload_n C dJ1_charAt_3b067_7 8 rfl 1 rfl rfl ?_
  refine x_strbyte C Ev hi hj dJ1_charAt_3b067_8 9 rfl ?_
  refine x_sipush C dJ1_charAt_3b067_9 12 rfl 255 (by decide) ?_
  refine x_iand C dJ1_charAt_3b067_12 13 rfl ?_
  refine x_i2c C dJ1_charAt_3b067_13 14 rfl ?_
  refine x_topi hc.1 ?_
  exact x_nret C hc.2 hE dJ1_charAt_3b067_14
theorem cs_charAt {l : Launch} {adK adV : Nat → Nat} {G : xG} {A : Nat → Prop} {σ : St} {i : Nat} {j : Int32} (hi : i < 16) (hj : vp_in j (xLen.getD i 0)) : ConS l yJ0_charAt_5068e (xws yJ0_charAt_5068e cJ0_charAt_5068e 2 (some .char)) rmJch [.ref (adK i), .int j] adK adV G A σ (some (.int ((xByt.getD i []).getD j.toNatClampNeg 0))) σ := by
  obtain ⟨h1, h2, h3⟩ := vp_in_lt (xLen_small i hi) hj
  have hc := xByt_char i hi j.toNatClampNeg (Nat.lt_trans h3 (xLen_40 i hi))
  refine s_startF (by decide) (Nat.le_of_ble_eq_true rfl) (fun X _ _ _ C Ev hE => ?_)
  show V X (0, 0) σ 0 [(0, .ref (adK i)), (1, .int j)] []
  refine x_aload_n C dJ0_charAt_5068e_0 1 rfl 0 rfl rfl ?_
  refine y_callK C Ev hi dJ0_charAt_5068e_1 4 rfl rfl (cs_isLatin1 hi) kJ0_isLatin1_aae02 kvJ0_isLatin1_aae02 w868 ⟨rfl, rfl⟩ ⟨Nat.le_of_ble_eq_true rfl, Nat.le_of_ble_eq_true rfl⟩ ⟨Nat.zero_le _, Nat.zero_le _⟩ rfl rfl (Nat.le_of_ble_eq_true rfl) [.int 1] rfl ?_
  refine x_if_eq C dJ0_charAt_5068e_4 16 (by decide) 7 rfl (fun hc => absurd hc (by decide)) (fun _ => ?_)
  refine x_aload_n C dJ0_charAt_5068e_7 8 rfl 0 rfl rfl ?_
  refine x_strval C Ev hi dJ0_charAt_5068e_8 11 rfl w2142 ?_
  refine x_iload_n C dJ0_charAt_5068e_11 12 rfl 1 rfl rfl ?_
  refine y_callS C Ev dJ0_charAt_5068e_12 15 rfl (cs_l1 hi hj) kJ1_charAt_3b067 ksJ1_charAt_3b067 w872 ⟨rfl, rfl⟩ ⟨Nat.le_of_ble_eq_true rfl, Nat.le_of_ble_eq_true rfl⟩ ⟨Nat.zero_le _, Nat.zero_le _⟩ rfl rfl (Nat.le_of_ble_eq_true rfl) [.int ((xByt.getD i []).getD j.toNatClampNeg 0)] rfl ?_
  exact x_nret C hc.2 hE dJ0_charAt_5068e_15
section XV
variable {X : xX} {adK adV : Nat → Nat} {σ σ' : St} {pc : Nat} {lv : List (Nat × Value)} {st : List Value} {cc : ByteArray} {nL : Nat} {own : String} {rm : Room} {ret : Option FieldType}
theorem y_slen (C : Ok X cc nL own rm ret) (Ev : xEnv adK adV (xA X) (xs X)) {idx i : Nat} {v : Int32} (hv : slen i = some v) (d : decode cc pc = .ok (.invokevirtual idx, 3)) (pc' : Nat) (hp : pc + 3 = pc') (hl : Cond.methodLink own idx yJ0_length_8abf5 ∈ gt) (hR : rmJlen.frames + 1 ≤ rm.frames ∧ 8 + (1 + 11) + rmJlen.locals ≤ rm.locals) (hcat : (st.map fun v => v.category).sum ≤ 8) (kk : V X (0, 0) σ pc' lv (.int v :: st)) : V X (0, 0) σ pc lv (.ref (adK i) :: st) := by
  unfold slen at hv
  split at hv
  · rename_i hi
    cases hv
    exact y_callK C Ev hi d pc' hp rfl (cs_length hi) kJ0_length_8abf5 kvJ0_length_8abf5 hl ⟨rfl, rfl⟩ hR ⟨Nat.zero_le _, Nat.zero_le _⟩ rfl rfl hcat _ rfl kk
  · cases hv
theorem y_sch (C : Ok X cc nL own rm ret) (Ev : xEnv adK adV (xA X) (xs X)) {idx i : Nat} {j v : Int32} (hv : sch i j = some v) (d : decode cc pc = .ok (.invokevirtual idx, 3)) (pc' : Nat) (hp : pc + 3 = pc') (hl : Cond.methodLink own idx yJ0_charAt_5068e ∈ gt) (hR : rmJch.frames + 1 ≤ rm.frames ∧ 8 + (2 + 11) + rmJch.locals ≤ rm.locals) (hcat : (st.map fun v => v.category).sum ≤ 8) (kk : V X (0, 0) σ pc' lv (.int v :: st)) : V X (0, 0) σ pc lv (.int j :: .ref (adK i) :: st) := by
  unfold sch at hv
  split at hv
  · rename_i hi
    cases hv
    exact y_callK C Ev hi.1 d pc' hp rfl (cs_charAt hi.1 hi.2) kJ0_charAt_5068e kvJ0_charAt_5068e hl ⟨rfl, rfl⟩ hR ⟨Nat.zero_le _, Nat.zero_le _⟩ rfl rfl hcat _ rfl kk
  · cases hv
end XV
