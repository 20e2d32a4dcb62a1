/-! THE START: what holds there; both objects are made -/
theorem w154 : Cond.classLink RL 8 RX11 ∈ gt := gt_of 154 (by decide +kernel) (by decide +kernel)
theorem w155 : Cond.instantiable RX11 20 ∈ gt := gt_of 155 (by decide +kernel) (by decide +kernel)
theorem w156 : Cond.methodLink RL 94 yX11_init ∈ gt := gt_of 156 (by decide +kernel) (by decide +kernel)
theorem w1434 : Cond.classLink RL 95 RX12 ∈ gt := gt_of 1434 (by decide +kernel) (by decide +kernel)
theorem w1435 : Cond.instantiable RX12 58 ∈ gt := gt_of 1435 (by decide +kernel) (by decide +kernel)
theorem w1436 : Cond.methodLink RL 97 yX12_init ∈ gt := gt_of 1436 (by decide +kernel) (by decide +kernel)
def v11 : List Value := [.null, .int 0, .int 0, .null, .null, .int 0, .null, .null, .null, .null, .null, .null, .null, .null, .null, .null, .null, .null, .null, .int 0]
def v12 : List Value := [.int 0, .null, .null, .null, .int 0, .int 0, .null, .int 0, .int 0, .int 0, .int 0, .int 0, .int 0, .int 0, .int 0, .null, .int 0, .int 0, .long 0, .int 0, .null, .null, .null, .int 0, .int 0, .null, .null, .null, .int 0, .int 0, .int 0, .long 0, .int 0, .long 0, .long 0, .null, .null, .null, .null, .int 0, .null, .int 0, .null, .null, .int 0, .null, .null, .null, .null, .null, .null, .null, .null, .null, .null, .int 0, .null, .null]
theorem df10 : ∀ j, j < 20 → defaultValue (tyX11 j) = vp_V v11 j := by decide +kernel
theorem df11 : ∀ j, j < 58 → defaultValue (tyX12 j) = vp_V v12 j := by decide +kernel
theorem st_K {s : State} {args : Array Value} (hts : ∀ w ∈ gt, w.before args s = true) (hao : (Cond.arrayOver (.object RX2)).before args s = true) : ∃ G : xG, va_K (x_D G) x_cl (x_tys G) s := by
  obtain ⟨c0, i0, k0⟩ := u_known hts cl0.2.1 (hts _ w258)
  obtain ⟨c1, i1, k1⟩ := u_known hts cl1.2.1 (hts _ w406)
  obtain ⟨c2, i2, k2⟩ := u_known hts cl2.2.1 (hts _ w163)
  obtain ⟨c3, i3, k3⟩ := u_known hts cl3.2.1 (hts _ w452)
  obtain ⟨c4, i4, k4⟩ := u_known hts cl4.2.1 (hts _ w431)
  obtain ⟨c5, i5, k5⟩ := u_known hts cl5.2.1 (hts _ w332)
  obtain ⟨c6, i6, k6⟩ := u_known hts cl6.2.1 (hts _ w363)
  obtain ⟨c7, i7, k7⟩ := u_known hts cl7.2.1 (hts _ w278)
  obtain ⟨c8, i8, k8⟩ := u_known hts cl8.2.1 (hts _ w169)
  obtain ⟨c9, i9, k9⟩ := u_known hts cl9.2.1 (hts _ w307)
  obtain ⟨c10, i10, k10⟩ := u_known hts cl10.2.1 (hts _ w155)
  obtain ⟨c11, i11, k11⟩ := u_known hts cl11.2.1 (hts _ w1435)
  obtain ⟨a0, q0, m0, f0, g0, h0⟩ := Cond.arrayClass_spec (hts _ w232)
  obtain ⟨a1, q1, m1, f1, g1, h1⟩ := Cond.arrayClass_spec (hts _ w233)
  obtain ⟨a2, q2, m2, f2, g2, h2⟩ := Cond.arrayClass_spec (hts _ w361)
  obtain ⟨m3, a3, q3, e3, -, g3, h3, f3⟩ := Cond.arrayOver_spec hao
  refine ⟨(fun n => [c0, c1, c2, c3, c4, c5, c6, c7, c8, c9, c10, c11].getD n 0, fun n => [i0, i1, i2, i3, i4, i5, i6, i7, i8, i9, i10, i11].getD n (fun _ => 0), fun n => [a0, a1, a2, a3].getD n 0), fun c q hq => ?_, fun k q hq => ?_⟩
  · match c, hq with
    | 0, hq => cases hq; exact k0
    | 1, hq => cases hq; exact k1
    | 2, hq => cases hq; exact k2
    | 3, hq => cases hq; exact k3
    | 4, hq => cases hq; exact k4
    | 5, hq => cases hq; exact k5
    | 6, hq => cases hq; exact k6
    | 7, hq => cases hq; exact k7
    | 8, hq => cases hq; exact k8
    | 9, hq => cases hq; exact k9
    | 10, hq => cases hq; exact k10
    | 11, hq => cases hq; exact k11
    | n + 12, hq => cases hq
  · match k, hq with
    | 0, hq => cases hq; exact ⟨fun n z => ⟨fun k h => (by cases h), q0, g0, m0, h0⟩, f0⟩
    | 1, hq => cases hq; exact ⟨fun n z => ⟨fun k h => (by cases h), q1, g1, m1, h1⟩, f1⟩
    | 2, hq => cases hq; exact ⟨fun n z => ⟨fun k h => (by cases h), q2, g2, m2, h2⟩, f2⟩
    | 3, hq => cases hq; exact ⟨fun n z => ⟨fun k h => (by cases h), q3, g3, m3, h3⟩, q3, m3, g3, h3, e3, f3⟩
    | n + 4, hq => cases hq
def stm : Nat → Term := fun i => match i with
  | 0 => .string RX11 168
  | 1 => .string RX11 192
  | 2 => .string RX11 209
  | 3 => .string RX11 272
  | 4 => .string RX11 330
  | 5 => .string RX11 368
  | 6 => .string RX11 404
  | 7 => .string RX11 406
  | 8 => .string RX11 408
  | 9 => .string RX11 410
  | 10 => .string RX11 412
  | 11 => .string RX11 414
  | 12 => .string RX7 49
  | 13 => .string RX7 66
  | 14 => .string RX7 71
  | _ => .string RX7 76
def stF : List Cond := flatC (Jvm.Cond.and given_1 narrow_1)
theorem st_str1 : ∀ i, i < 16 → Cond.exactly (stm i) "java/lang/String" ∈ stF ∧ Cond.eq (.field (stm i) "java/lang/String" "coder" "B") (.int 0) ∈ stF ∧ Cond.arrayOf (.field (stm i) "java/lang/String" "value" "[B") .byte ∈ stF ∧ Cond.eq (.length (.field (stm i) "java/lang/String" "value" "[B")) (.int (Int32.ofNat (xLen.getD i 0))) ∈ stF := by decide +kernel
def six2 : List (List Nat) := [[122, 123, 124, 125, 126, 127, 128, 129, 130, 131, 132, 133, 134], [184, 185, 186, 187, 188, 189, 190, 191, 192, 193, 194, 195, 196, 197], [253, 254, 255, 256, 257, 258, 259, 260, 261, 262, 263, 264, 265], [280, 281, 282, 283, 284, 285, 286, 287, 288, 289, 290, 291], [369, 370, 371, 372, 373, 374, 375, 376, 377, 378, 379, 380, 381], [400, 401, 402, 403, 404, 405, 406, 407, 408, 409, 410, 411, 412, 413], [41, 42, 43, 44, 45, 46, 47, 48, 49, 50, 51, 52, 53, 54, 55, 56, 57, 58, 59, 60, 61, 62, 63, 64, 65, 66, 67, 68, 69, 70], [144, 145, 146, 147, 148, 149, 150, 151, 152, 153, 154, 155], [166, 167, 168, 169, 170, 171, 172], [334, 335, 336, 337, 338, 339, 340, 341, 342, 343, 344, 345, 346, 347, 348, 349, 350, 351], [210, 211, 212, 213, 214, 215, 216, 217, 218, 219, 220, 221, 222, 223, 224, 225, 226, 227, 228, 229, 230, 231, 232, 233, 234, 235, 236, 237, 238, 239], [307, 308, 309, 310, 311, 312, 313, 314, 315, 316, 317], [75, 76, 77, 78, 79, 80, 81], [87, 88, 89, 90], [97, 98, 99, 100, 101], [109, 110, 111, 112, 113]]
def six3 : List (List Nat) := [[0, 203, 271, 297, 387, 419, 135, 161, 178, 357, 245, 323, 136, 137, 138, 139], [203, 0, 274, 300, 390, 422, 198, 204, 205, 360, 248, 326, 199, 200, 201, 202], [271, 274, 0, 302, 392, 424, 266, 272, 273, 362, 275, 328, 267, 268, 269, 270], [297, 300, 302, 0, 393, 425, 292, 298, 299, 363, 301, 329, 293, 294, 295, 296], [387, 390, 392, 393, 0, 428, 382, 388, 389, 395, 391, 394, 383, 384, 385, 386], [419, 422, 424, 425, 428, 0, 414, 420, 421, 427, 423, 426, 415, 416, 417, 418], [135, 198, 266, 292, 382, 414, 0, 156, 173, 352, 240, 318, 82, 91, 102, 114], [161, 204, 272, 298, 388, 420, 156, 0, 179, 358, 246, 324, 157, 158, 159, 160], [178, 205, 273, 299, 389, 421, 173, 179, 0, 359, 247, 325, 174, 175, 176, 177], [357, 360, 362, 363, 395, 427, 352, 358, 359, 0, 361, 364, 353, 354, 355, 356], [245, 248, 275, 301, 391, 423, 240, 246, 247, 361, 0, 327, 241, 242, 243, 244], [323, 326, 328, 329, 394, 426, 318, 324, 325, 364, 327, 0, 319, 320, 321, 322], [136, 199, 267, 293, 383, 415, 82, 157, 174, 353, 241, 319, 0, 92, 103, 115], [137, 200, 268, 294, 384, 416, 91, 158, 175, 354, 242, 320, 92, 0, 104, 116], [138, 201, 269, 295, 385, 417, 102, 159, 176, 355, 243, 321, 103, 104, 0, 117], [139, 202, 270, 296, 386, 418, 114, 160, 177, 356, 244, 322, 115, 116, 117, 0]]
theorem st_str2a : ∀ i, i < 16 → ∀ j, j < xLen.getD i 0 → stF[(six2.getD i []).getD j 0]? = some (Cond.eq (.elem (.field (stm i) "java/lang/String" "value" "[B") (.int (Int32.ofNat j))) (.int ((xByt.getD i []).getD j 0))) := by decide +kernel
theorem st_str2 : ∀ i, i < 16 → ∀ j, j < xLen.getD i 0 → Cond.eq (.elem (.field (stm i) "java/lang/String" "value" "[B") (.int (Int32.ofNat j))) (.int ((xByt.getD i []).getD j 0)) ∈ stF := fun i hi j hj => List.mem_of_getElem? (st_str2a i hi j hj)
theorem st_str3a : ∀ i, i < 16 → ∀ j, j < 16 → i ≠ j → stF[(six3.getD i []).getD j 0]? = some (Cond.not (Cond.eq (stm i) (stm j))) ∨ stF[(six3.getD i []).getD j 0]? = some (Cond.not (Cond.eq (stm j) (stm i))) := by decide +kernel
theorem st_str3 : ∀ i, i < 16 → ∀ j, j < 16 → i ≠ j → (Cond.not (Cond.eq (stm i) (stm j))) ∈ stF ∨ (Cond.not (Cond.eq (stm j) (stm i))) ∈ stF := fun i hi j hj hij => (st_str3a i hi j hj hij).imp List.mem_of_getElem? List.mem_of_getElem?
theorem st_str4 : ∀ i, i < 16 → xLen.getD i 0 < 2 ^ 31 := by decide +kernel
theorem st_nw {args : Array Value} {s : State} (hts : ∀ w ∈ lw_tbl, w.before args s = true) : ∀ w ∈ xNw, va_Nw w s := by
  intro w hw
  have h1 := hts w (List.mem_filter.mp hw).1
  have h2 := (List.mem_filter.mp hw).2
  cases w <;> first | exact va_Nw.of rfl h1 | cases h2
theorem st_mk {args : Array Value} {s : State} (hts : ∀ w ∈ lw_tbl, w.before args s = true) : xMk s := by
  refine ⟨fun w hw => ?_, va_AO.of (hts _ (List.mem_of_getElem? (i := 264) (by decide +kernel)))⟩
  simp only [xNest, List.mem_cons, List.not_mem_nil, or_false] at hw
  rcases hw with rfl | rfl | rfl
  · exact va_Nw.of rfl (hts _ (List.mem_of_getElem? (i := 164) (by decide +kernel)))
  · exact va_Nw.of rfl (hts _ (List.mem_of_getElem? (i := 265) (by decide +kernel)))
  · exact va_Nw.of rfl (hts _ (List.mem_of_getElem? (i := 432) (by decide +kernel)))
theorem st_env {args : Array Value} {s : State} {A : Nat → Prop} (hts : ∀ w ∈ lw_tbl, w.before args s = true) (hgv : (Jvm.Cond.and given_1 narrow_1).before args s = true) (hA : ∀ a : Nat, a < s.heap.size → ¬ A a) : ∃ adK adV : Nat → Nat, xEnv adK adV A s := by
  have hs : ∀ c ∈ stF, c.before args s = true := flat_of_before _ hgv
  obtain ⟨adK, adV, hS, hT⟩ := vk_Sof (args := args) (s := s) (N := 16) (tm := stm) (len := xLen) (byt := xByt) (A := A) st_str4 (fun i hi => hs _ (st_str1 i hi).1) (fun i hi => hs _ (st_str1 i hi).2.1) (fun i hi => hs _ (st_str1 i hi).2.2.1) (fun i hi => hs _ (st_str1 i hi).2.2.2) (fun i hi j hj => hs _ (st_str2 i hi j hj)) (fun i j hi hj hij => (st_str3 i hi j hj hij).imp (hs _) (hs _)) hA
  refine ⟨adK, adV, vx_Zqof (hts _ (List.mem_of_getElem? (i := 794) (by decide +kernel))) (hts _ (List.mem_of_getElem? (i := 140) (by decide +kernel))) (hs _ (by decide +kernel)) hA, vx_Zqof (hts _ (List.mem_of_getElem? (i := 796) (by decide +kernel))) (hts _ (List.mem_of_getElem? (i := 140) (by decide +kernel))) (hs _ (by decide +kernel)) hA, ?_, hS, st_nw hts, ⟨va_Zof (hts _ (List.mem_of_getElem? (i := 863) (by decide +kernel))) (hts _ (List.mem_of_getElem? (i := 144) (by decide +kernel))) (va_eqi (hs _ (by decide +kernel))) hA, va_Zqof (hts _ (List.mem_of_getElem? (i := 879) (by decide +kernel))) (hts _ (List.mem_of_getElem? (i := 146) (by decide +kernel))) (hs _ (by decide +kernel)) hA⟩, va_Nc.of (hs _ (by decide +kernel))⟩
  intro q hq
  simp only [xStr, List.mem_cons, List.not_mem_nil, or_false] at hq
  rcases hq with rfl | rfl | rfl | rfl | rfl | rfl | rfl | rfl | rfl | rfl | rfl | rfl | rfl | rfl | rfl | rfl | rfl | rfl | rfl | rfl
  · exact vk_R.of (hts _ (List.mem_of_getElem? (i := 1035) (by decide +kernel))) (hT 0 (by decide))
  · exact vk_R.of (hts _ (List.mem_of_getElem? (i := 1065) (by decide +kernel))) (hT 1 (by decide))
  · exact vk_R.of (hts _ (List.mem_of_getElem? (i := 1096) (by decide +kernel))) (hT 2 (by decide))
  · exact vk_R.of (hts _ (List.mem_of_getElem? (i := 1210) (by decide +kernel))) (hT 3 (by decide))
  · exact vk_R.of (hts _ (List.mem_of_getElem? (i := 1313) (by decide +kernel))) (hT 4 (by decide))
  · exact vk_R.of (hts _ (List.mem_of_getElem? (i := 1364) (by decide +kernel))) (hT 5 (by decide))
  · exact vk_R.of (hts _ (List.mem_of_getElem? (i := 807) (by decide +kernel))) (hT 6 (by decide))
  · exact vk_R.of (hts _ (List.mem_of_getElem? (i := 1053) (by decide +kernel))) (hT 7 (by decide))
  · exact vk_R.of (hts _ (List.mem_of_getElem? (i := 1057) (by decide +kernel))) (hT 8 (by decide))
  · exact vk_R.of (hts _ (List.mem_of_getElem? (i := 1253) (by decide +kernel))) (hT 9 (by decide))
  · exact vk_R.of (hts _ (List.mem_of_getElem? (i := 1069) (by decide +kernel))) (hT 10 (by decide))
  · exact vk_R.of (hts _ (List.mem_of_getElem? (i := 1235) (by decide +kernel))) (hT 11 (by decide))
  · exact vk_R.of (hts _ (List.mem_of_getElem? (i := 849) (by decide +kernel))) (hT 12 (by decide))
  · exact vk_R.of (hts _ (List.mem_of_getElem? (i := 919) (by decide +kernel))) (hT 13 (by decide))
  · exact vk_R.of (hts _ (List.mem_of_getElem? (i := 944) (by decide +kernel))) (hT 14 (by decide))
  · exact vk_R.of (hts _ (List.mem_of_getElem? (i := 949) (by decide +kernel))) (hT 15 (by decide))
  · exact vk_R.of (hts _ (List.mem_of_getElem? (i := 1699) (by decide +kernel))) (va_eqR (t := .string RX7 66) (u := .string RX12 246) (hs _ (by decide +kernel)) (hT 13 (by decide)))
  · exact vk_R.of (hts _ (List.mem_of_getElem? (i := 1717) (by decide +kernel))) (va_eqR (t := .string RX7 76) (u := .string RX12 255) (hs _ (by decide +kernel)) (hT 15 (by decide)))
  · exact vk_R.of (hts _ (List.mem_of_getElem? (i := 1734) (by decide +kernel))) (va_eqR (t := .string RX7 71) (u := .string RX12 260) (hs _ (by decide +kernel)) (hT 14 (by decide)))
  · exact vk_R.of (hts _ (List.mem_of_getElem? (i := 1672) (by decide +kernel))) (va_eqR (t := .string RX7 49) (u := .string RX12 268) (hs _ (by decide +kernel)) (hT 12 (by decide)))
noncomputable def fStart (h : Nat) : Option St :=
xlet (xu (fun _ => none) h (.inr (10, v11))) fun σ0 =>
(fX11_init σ0 (h + 1) h).bind fun σ1 =>
xlet (xu σ1 (h + 308) (.inr (11, v12))) fun σ2 =>
(fX12_init σ2 (h + 309) (h + 308)).bind fun σ3 =>
xlet (xu σ3 (h + 339) (.inl (1, 1, .inr (.inl (fun _ => 0))))) fun σ4 =>
some σ4
def PureAll : Prop := ∀ (h L : Nat) (sx : Nat → Int32), L ≤ 3072 → ∃ σ, fStart h = some σ ∧ LawOk sx L h (h + 308) (h + 339) 513 0 σ
theorem Wd_none {G : xG} {A : Nat → Prop} {H : Heap} : Wd G A (fun _ => none) H := ⟨[], ⟨fun k q hq => (by cases hq), ⟨⟨fun i j p q hp => (by cases hp), fun k q hq => (by cases hq)⟩, fun q e he => (by cases he)⟩⟩⟩
theorem v_of_z {X : xX} {k : Nat × Nat} {σ : St} {pc : Nat} {lv : List (Nat × Value)} {st : List Value} (h : Vz X k σ pc lv st) : V X k σ pc lv st := fun H locs ls _ hW hS hl => h H locs ls hW hS hl
theorem start_walk {X : xX} {adK adV : Nat → Nat} {b L h : Nat} {sx : Nat → Int32} {σ : St} (hst : (xl X).stackTraces = false) (C : Ok X code 7 RL room_1 (some .boolean)) (O : OkB X h) (Ev : xEnv adK adV (xA X) (xs X)) (S : Scr X b L sx)
    (hQ : ∀ (k : Nat × Nat) (H : Heap) (locs : List Loc) (ls : Array Slot), k.1 ≤ room_1.cells ∧ k.2 ≤ room_1.slots → va_S (xA X) (xs X).heap H locs → W (xp X) (xl X) (xe X) (xR X) (xs X) (xm X) (xa X) (xb X) (xh X) (xc X) H locs k.1 k.2 (xQ X) (F0 (xm X) 2175 ls [.int 1]))
    (hf : fStart h = some σ) (hp : LawOk sx L h (h + 308) (h + 339) 513 0 σ) : V X (0, 0) (fun _ => none) 0 [(0, .ref (b))] [] := by
  unfold fStart at hf
  obtain ⟨σ0, eσ0, hf⟩ := xlet_some hf
  refine b_new C O dL_law_0 3 rfl cl10 w154 w155 w128 v11 df10 h rfl ⟨Nat.le_of_ble_eq_true rfl, Nat.le_of_ble_eq_true rfl⟩ eσ0 (1, 20) rfl ?_
  refine x_dup C dL_law_3 4 rfl rfl ?_
  obtain ⟨σ1, hσ1, hf⟩ := x_bind hf
  refine b_init C O dL_law_4 7 rfl rfl (cX11_initc hσ1) kX11_init kiX11_init w156 ⟨rfl, rfl⟩ ⟨Nat.le_of_ble_eq_true rfl, Nat.le_of_ble_eq_true rfl⟩ ⟨Nat.le_of_ble_eq_true rfl, Nat.le_of_ble_eq_true rfl⟩ rfl rfl (Nat.le_of_ble_eq_true rfl) (308, 24074) rfl ?_
  refine x_astore_n C dL_law_7 8 rfl rfl rfl [(1, .ref (h)), (0, .ref (b))] rfl ?_
  obtain ⟨σ2, eσ2, hf⟩ := xlet_some hf
  refine b_new C O dL_law_8 11 rfl cl11 w1434 w1435 w139 v12 df11 (h + 308) rfl ⟨Nat.le_of_ble_eq_true rfl, Nat.le_of_ble_eq_true rfl⟩ eσ2 (309, 24132) rfl ?_
  refine x_dup C dL_law_11 12 rfl rfl ?_
  obtain ⟨σ3, hσ3, hf⟩ := x_bind hf
  refine b_init C O dL_law_12 15 rfl rfl (cX12_initc hσ3) kX12_init kiX12_init w1436 ⟨rfl, rfl⟩ ⟨Nat.le_of_ble_eq_true rfl, Nat.le_of_ble_eq_true rfl⟩ ⟨Nat.le_of_ble_eq_true rfl, Nat.le_of_ble_eq_true rfl⟩ rfl rfl (Nat.le_of_ble_eq_true rfl) (339, 35891) rfl ?_
  refine x_astore_n C dL_law_15 16 rfl rfl rfl [(2, .ref (h + 308)), (1, .ref (h)), (0, .ref (b))] rfl ?_
  refine x_iconst C dL_law_16 17 rfl 1 (by decide) ?_
  obtain ⟨σ4, eσ4, hf⟩ := xlet_some hf
  refine b_newL C O dL_law_17 19 rfl w233 (by decide) (N := 1) (by decide) (Nat.le_of_ble_eq_true rfl) (h + 339) rfl ⟨Nat.le_of_ble_eq_true rfl, Nat.le_of_ble_eq_true rfl⟩ eσ4 (340, 35892) rfl ?_
  refine x_astore_n C dL_law_19 20 rfl rfl rfl [(3, .ref (h + 339)), (2, .ref (h + 308)), (1, .ref (h)), (0, .ref (b))] rfl ?_
  refine x_iconst C dL_law_20 21 rfl 0 (by decide) ?_
  refine x_istore C dL_law_21 23 rfl rfl [(4, .int 0), (3, .ref (h + 339)), (2, .ref (h + 308)), (1, .ref (h)), (0, .ref (b))] rfl ?_
  refine x_lv [4, 3, 2, 1, 0] (lv' := [(0, .ref (b)), (1, .ref (h)), (2, .ref (h + 308)), (3, .ref (h + 339)), (4, .int 0)]) rfl ?_
  have e9 := Option.some.inj hf
  subst e9
  exact v_of_z (law_loop C hst Ev S hQ 513 0 σ4 (340, 35892) hp ⟨Nat.le_of_ble_eq_true rfl, Nat.le_of_ble_eq_true rfl⟩)
/-! THE CLAIM OUT OF ONE WALK OF THE LAW'S BODY. Your part is whole_start (and what it stands on); all else here is the same for every law, but numbers. -/
def R_law : String := "RewrittenWordsLaw"
def lw_P (b : Addr) (xs : List Int32) (args : Array Value) (s : State) : Prop := args = #[.ref b] ∧ s.IntsAt b xs ∧ xs.length ≤ 3072 ∧ (Jvm.Cond.and given_1 narrow_1).before args s = true
def lw_Q (_ : Array Value) (s : State) (o : Outcome) (t : State) : Prop := o = .returned (some (.int 1)) ∧ Framed s o t [] 601024 7293034
def lw_Z (below : List Frame) (a : Array Value) (s : State) : State → Prop := fun t => ∃ o, t.status = .running ∧ Ended t below o ∧ lw_Q a s o t
/-- the law's own end, with 1 on the stack, nothing written that was there before, its room as the claim has it -/
theorem lw_ret {p : Program} {l : Launch} {e : Env} {s : State} {m : MethodId} {below : List Frame} {meth : Method} {c : Code} {b : Nat} (hx : p.tables.exec = Jvm.exec) (hb : c.code = code) (hr : meth.sig.returnType = ret) (hlocks : meth.locks = false) {pc : Nat} {H : Heap} {ls : Array Slot} (hdg : decode code pc = .ok (.ireturn, 1)) : W p l e room_1 s m #[Value.ref b] below meth c H [] 601024 7293034 (lw_Z below #[Value.ref b] s) (F0 m pc ls [.int 1]) := by
  intro T hT X
  obtain ⟨fs, hret, hrun, hended, hW, hframe⟩ := X.leave (v := some (.int 1)) (hlocks := hlocks) (fun h => by rw [hr] at h; cases h)
  have hmeth' : T.vm.method? m = some meth := X.method'
  refine ⟨T.setFrames fs, ?_, .returned (some (.int 1)), hrun, hended, rfl, ⟨_, rfl⟩, hW, hframe⟩
  jvm_step X.here [X.here.top, hx, hb, hdg, hmeth', hr, ret, narrow_b1]
  (try refine ⟨rfl, ?_⟩); (try refine ⟨rfl, ?_⟩)
  first | (intro acts; rw [hret _ acts rfl rfl rfl]) | rw [hret _ _ rfl rfl rfl]
  exact Steps.refl _
/-- what holds at the law's entry: the machine, the code, the tables' words (any of lw_tbl by 'hts w (by decide +kernel)'), the script of L ints xs at the cell b, what the Statement gives of the start (any of its parts by flat_of_before) -/
def lw_At (p : Program) (s : State) (m : MethodId) (meth : Method) (c : Code) (b L : Nat) (xs : Nat → Int32) : Prop :=
  p.tables.exec = Jvm.exec ∧ c.code = code ∧ meth.sig.returnType = ret ∧ c.maxLocals = 7 ∧ s.vm.findClass R_law = some m.cls ∧ (∀ w ∈ lw_tbl, w.before #[Value.ref b] s = true) ∧ va_X b L xs s s.heap ∧ b < s.heap.size ∧ meth.locks = false ∧ (Jvm.Cond.and given_1 narrow_1).before #[Value.ref b] s = true
theorem whole_start_of {p : Program} {e : Env} {s : State} {m : MethodId} {below : List Frame} {meth : Method} {c : Code} (hpure : PureAll) (l : Launch) (hflags : l.flags = flags0) {b L : Nat} {xs : Nat → Int32} (hL : L ≤ 3072) (C0 : lw_At p s m meth c b L xs) : W p l e room_1 s m #[Value.ref b] below meth c s.heap [] 0 0 (lw_Z below #[Value.ref b] s) (entryFrame m ([Value.ref b] : List Value).toArray 7) := by
  obtain ⟨h1, h2, h3, h4, h5, h6, h7, h8, h9, h10⟩ := C0
  have hA : ∀ a : Nat, a < s.heap.size → ¬ (fun q => s.heap.size ≤ q) a := fun a ha hb => absurd hb (Nat.not_le_of_lt ha)
  have hgt : ∀ w ∈ gt, w.before #[Value.ref b] s = true := fun w hw => h6 w (List.mem_filter.mp hw).1
  obtain ⟨G, hK⟩ := st_K hgt (h6 _ (List.mem_of_getElem? (i := 264) (by decide +kernel)))
  obtain ⟨adK, adV, Ev⟩ := st_env (A := fun q => s.heap.size ≤ q) h6 h10 hA
  obtain ⟨σ, hσ, hlaw⟩ := hpure s.heap.size L xs hL
  have hl := lv_entry ([Value.ref b]) (n := 7) (Nat.le_of_ble_eq_true rfl)
  rw [lg_entry_eq]
  exact start_walk (X := (p, l, e, room_1, s, m, #[Value.ref b], below, meth, c, 7, (fun q => s.heap.size ≤ q), G, lw_Z below #[Value.ref b] s)) (adK := adK) (adV := adV) (b := b) (L := L) (h := s.heap.size) (sx := xs)
    (by show l.stackTraces = false; unfold Launch.stackTraces; rw [hflags]; decide +kernel) ⟨h1, h2, ⟨h4, rfl⟩, h5, hgt, ⟨h9, h3⟩, rfl, hK, fun q hq => hq⟩ ⟨rfl, st_mk h6⟩ Ev ⟨h7, h8, hA b h8⟩
    (fun k H locs ls hk hS => va_forget hS.2.2 (W.widen hk.1 hk.2 (lw_ret h1 h2 h3 h9 dL_law_2175))) hσ hlaw s.heap [] _ rfl Wd_none va_S.rf hl
