/-! THE LAW'S LOOP: an iteration; what is owed of the pure functions; the loop -/
def OkB (X : xX) (h : Nat) : Prop := (xs X).heap.size = h ∧ xMk (xs X)
section XV
variable {X : xX} {h mc ms : Nat} {k : Nat × Nat} {σ σ' : St} {pc : Nat} {lv : List (Nat × Value)} {st : List Value} {cc : ByteArray} {nL : Nat} {own : String} {rm : Room} {ret : Option FieldType}
theorem b_after {H H1 : Heap} {locs : List Loc} {ls : Array Slot} {n : Nat} {e : xE} (C : Ok X cc nL own rm ret) (O : OkB X h) {a : Nat} (ha : h + k.1 = a) {σ1 : St} (hσ1 : xu σ a e = σ1) {k' : Nat × Nat} (hk' : (k.1 + 1, k.2 + n) = k') (kk : V X k' σ1 pc lv st) (hz : H.size = (xs X).heap.size + k.1) (hW : Wd (xGd X) (xA X) σ H) (hS : va_S (xA X) (xs X).heap H locs) (hl : lv_has ls (xn X) lv)
    (e1 : va_at (x_D (xGd X)) x_cl (a, x_e (xGd X) e) H1) (z1 : H1.size = H.size + 1) (o1 : ∀ q, q < H.size → H1[q]? = H[q]?) :
    W (xp X) (xl X) (xe X) (xR X) (xs X) (xm X) (xa X) (xb X) (xh X) (xc X) H1 locs (k.1 + 1) (k.2 + n) (xQ X) (F0 (xm X) pc ls st) := by
  subst hσ1; subst hk'
  obtain ⟨ws, hP, hD, hw⟩ := id hW
  have hs : a = H.size := by rw [hz, O.1]; exact ha.symm
  have hk9 : ∀ (i : Nat) (x : Nat × va_E), ws[i]? = some x → H1[x.1]? = H[x.1]? := fun i x hx => o1 x.1 ((hP i x hx).lt)
  refine kk H1 locs ls (by show H1.size = _ + (k.1 + 1); omega) (Wd_push hw ((hP.kept hk9).app (fun i x hx => ?_)) (hD.push hP hs (C.2.2.2.2.2.2.2.2 a (by rw [hs]; exact hS.1)))) ⟨Nat.le_trans hS.1 (by omega), fun x h1 h2 => (o1 x (Nat.lt_of_lt_of_le h1 hS.1)).trans (hS.2.1 x h1 h2), hS.2.2⟩ hl
  have hz9 : i < 1 := (List.getElem?_eq_some_iff.mp hx).1
  rw [show i = 0 by omega] at hx
  cases hx
  exact e1
theorem b_new (C : Ok X cc nL own rm ret) (O : OkB X h) {idx ci N : Nat} {Cn : String} {T : u_T} {ty : Nat → FieldType} (d : decode cc pc = .ok (.new idx, 3)) (pc' : Nat) (hp : pc + 3 = pc') (hc : xCls ci Cn T N ty) (hcl : Cond.classLink own idx Cn ∈ gt) (hins : Cond.instantiable Cn N ∈ gt) (hini : Cond.initialized Cn ∈ gt) (fs : List Value) (hfs : ∀ j, j < N → defaultValue (ty j) = vp_V fs j) (a : Nat) (ha : h + k.1 = a) (hr : k.1 + 1 ≤ rm.cells ∧ k.2 + N ≤ rm.slots) {σ1 : St} (hσ1 : xu σ a (.inr (ci, fs)) = σ1) (k' : Nat × Nat) (hk' : (k.1 + 1, k.2 + N) = k') (kk : V X k' σ1 pc' lv (.ref a :: st)) : V X k σ pc lv st := by
  subst hp
  intro H locs ls hz hW hS hl
  have hts := C.2.2.2.2.1
  have hRR := C.2.2.2.2.2.2.1
  have hKn := C.2.2.2.2.2.2.2.1.1 ci _ hc.1
  refine W.newcK C.1 C.2.1 C.2.2.2.1 (hts _ hcl) (hts _ hins) (hts _ hini) rfl d (by rw [hRR]; exact hr.1) (by rw [hRR]; exact hr.2) hKn.2.1 (h := a) (by rw [hz, O.1]; exact ha) fun H1 kC hkC e1 z1 o1 => ?_
  have hs : a = H.size := by rw [hz, O.1]; exact ha.symm
  exact b_after C O ha hσ1 hk' kk hz hW hS hl ⟨_, hc.1, (u_born ty hts hc.2.1 hKn hkC e1 hc.2.2.1).to hfs⟩ (by rw [z1, hs]) (fun q hq => o1 q (by rw [hs]; exact hq))
theorem b_newL (C : Ok X cc nL own rm ret) (O : OkB X h) {n : Int32} {N : Nat} (d : decode cc pc = .ok (.newarray .long, 2)) (pc' : Nat) (hp : pc + 2 = pc') (hw : Cond.arrayClass .long ∈ gt) (hn : ¬ n < 0) (hN : n.toNatClampNeg = N) (hby : N * 8 ≤ 536870912) (a : Nat) (ha : h + k.1 = a) (hr : k.1 + 1 ≤ rm.cells ∧ k.2 + N ≤ rm.slots) {σ1 : St} (hσ1 : xu σ a (.inl (1, N, .inr (.inl (fun _ => 0)))) = σ1) (k' : Nat × Nat) (hk' : (k.1 + 1, k.2 + N) = k') (kk : V X k' σ1 pc' lv (.ref a :: st)) : V X k σ pc lv (.int n :: st) := by
  subst hp
  intro H locs ls hz hW hS hl
  have hts := C.2.2.2.2.1
  have hRR := C.2.2.2.2.2.2.1
  have hs : a = H.size := by rw [hz, O.1]; exact ha.symm
  refine va_newaK (atype := .long) C.1 C.2.1 (hts _ hw) rfl d rfl hn hN hby (by rw [hRR]; exact hr.1) (by rw [hRR]; exact hr.2) (h := a) hs.symm fun H1 cA e1 z1 o1 hAr hNm => ?_
  have hcA : cA = (xGd X).2.2 1 := Option.some.inj (hNm.symm.trans (C.2.2.2.2.2.2.2.1.2 1 _ rfl).2)
  refine b_after C O ha hσ1 hk' kk hz hW hS hl ?_ (by rw [z1, hs]) (fun q hq => o1 q (by rw [hs]; exact hq))
  rw [hcA] at e1
  exact e1
theorem b_pre (C : Ok X cc nL own rm ret) (O : OkB X h) {a : Nat} (ha : h + k.1 = a) {H : Heap} {locs : List Loc} {as : List Value} (hz : H.size = (xs X).heap.size + k.1) (hW : Wd (xGd X) (xA X) σ H) (hS : va_S (xA X) (xs X).heap H locs) : ∀ U : State, U.heap = H → (xs X).WarmedH U.vm → va_Pc as (xPreA (xGd X) (xA X) σ a) as.toArray U := by
  intro U hU hm
  obtain ⟨h1, h2⟩ := x_pre (as := as) C hW hS U hU hm
  exact ⟨h1, h2, by rw [hU, hz, O.1]; exact ha, xNest_warm hm O.2.1, va_AO.moved hm.alike O.2.2⟩
theorem b_run (C : Ok X cc nL own rm ret) (O : OkB X h) {mc' ms' a0 : Nat} (ha : h + k.1 = a0) {H : Heap} {locs : List Loc} {ls : Array Slot} {st0 : List Value} {a : Array Value} (hr : va_Run (xp X) (xl X) (xe X) (xR X) (xs X) (xm X) (xa X) (xb X) (xh X) (xc X) H locs k.1 k.2 mc' ms' (F0 (xm X) pc ls st0) st (aQ (xGd X) (xA X) σ' (a0 + mc') a) (xA X))
    (hS : va_S (xA X) (xs X).heap H locs) (hlv : lv_has ls (xn X) lv) {k' : Nat × Nat} (hk' : (k.1 + mc', k.2 + ms') = k') (kk : V X k' σ' (pc + 3) lv st) : W (xp X) (xl X) (xe X) (xR X) (xs X) (xm X) (xa X) (xb X) (xh X) (xc X) H locs k.1 k.2 (xQ X) (F0 (xm X) pc ls st0) := by
  subst hk'
  intro T hT XS
  obtain ⟨v', st₀, t, T', L, h0, X', hL, e1, e2, ⟨hv, hWd, hsz, hF⟩, stp⟩ := hr T hT XS
  cases hv
  have hF1 := hF.1
  have hF2 := hF.2
  rw [h0] at hF1 hF2
  obtain ⟨t2, a1, b1⟩ := kk T'.heap (locs ++ L) ls (by rw [e1, hsz, O.1, ← ha, Nat.add_assoc]) (by rw [e1]; exact hWd) ⟨by rw [e1]; exact Nat.le_trans hS.1 hF1, fun q h1 h2 => by rw [e1, hF2 q (Nat.lt_of_lt_of_le h1 hS.1) h2]; exact hS.2.1 q h1 h2, fun q hq => by
      rcases List.mem_append.mp hq with h | h
      · exact hS.2.2 q h
      · exact hL q h⟩ hlv T' rfl X'
  exact ⟨t2, stp t2 a1, b1⟩
theorem b_init (C : Ok X cc nL own rm ret) (O : OkB X h) {idx n na q a mc' ms' : Nat} {y : MethodName} {b : ByteArray} {rm' : Room} {as stk : List Value} (d : decode cc pc = .ok (.invokespecial idx, 3)) (pc' : Nat) (hp : pc + 3 = pc') (ha : h + k.1 = a) (hM : ConA (xl X) y (xws y b n none) rm' mc' ms' (.ref q :: as) (xGd X) (xA X) σ a σ') (hy : xCal y b n none na) (hst : Cond.instanceMethod y ∈ gt ∧ y.name = "<init>") (hl : Cond.methodLink own idx y ∈ gt)
    (hrm : rm'.cells = mc' ∧ rm'.slots = ms') (hR : rm'.frames + 1 ≤ rm.frames ∧ 8 + (n + 11) + rm'.locals ≤ rm.locals) (hk : k.1 + mc' ≤ rm.cells ∧ k.2 + ms' ≤ rm.slots) (hna : as.length = na) (hstk : stk = as.reverse ++ .ref q :: st) (hcat : (st.map fun v => v.category).sum ≤ 8) (k' : Nat × Nat) (hk' : (k.1 + mc', k.2 + ms') = k') (kk : V X k' σ' pc' lv st) : V X k σ pc lv stk := by
  subst hp; subst hstk
  intro H locs ls hz hW hS hlv
  have hts := C.2.2.2.2.1
  have hRR := C.2.2.2.2.2.2.1
  exact b_run C O ha (va_runI (As := as) (rest := st) ⟨C.1, C.2.1, C.2.2.1.1, C.2.2.2.1, hts⟩ hM ⟨callB_of na hts (good_xws hy.1) rfl hrm.1 hrm.2 (hts _ hy.2.1) (hts _ hl) hy.2.2 (by rw [hRR]; exact hR), hst.2, hts _ hst.1⟩ ⟨a_blind, b_pre (as := .ref q :: as) C O ha hz hW hS⟩ rfl hna (by show ls.size = _; rw [hlv.1, C.2.2.1.2]) rfl (lv_room hcat) d (by rw [hRR]; exact hk)) hS hlv hk' kk
end XV
noncomputable def fIter (sx : Nat → Int32) (L : Nat) (x m o : Nat) (i : Int32) (σ : St) : Option St :=
(sc sx L i).bind fun v =>
if (v &&& 63).toInt < 0 ∨ 33 < (v &&& 63).toInt then
(some σ)
else
(if (v &&& 63) = 0 then
(fK0 sx L x m o i σ)
else
(if (v &&& 63) = 1 then
(fK1 sx L x m o i σ)
else
(if (v &&& 63) = 2 then
(fK2 sx L x m o i σ)
else
(if (v &&& 63) = 3 then
(fK3 sx L x m o i σ)
else
(if (v &&& 63) = 4 then
(fK4 sx L x m o i σ)
else
(if (v &&& 63) = 5 then
(fK5 sx L x m o i σ)
else
(if (v &&& 63) = 6 then
(fK6 sx L x m o i σ)
else
(if (v &&& 63) = 7 then
(fK7 sx L x m o i σ)
else
(if (v &&& 63) = 8 then
(fK8 sx L x m o i σ)
else
(if (v &&& 63) = 9 then
(fK9 sx L x m o i σ)
else
(if (v &&& 63) = 10 then
(fK10 sx L x m o i σ)
else
(if (v &&& 63) = 11 then
(fK11 sx L x m o i σ)
else
(if (v &&& 63) = 12 then
(fK12 sx L x m o i σ)
else
(if (v &&& 63) = 13 then
(fK13 sx L x m o i σ)
else
(if (v &&& 63) = 14 then
(fK14 sx L x m o i σ)
else
(if (v &&& 63) = 15 then
(fK15 sx L x m o i σ)
else
(if (v &&& 63) = 16 then
(fK16 sx L x m o i σ)
else
(if (v &&& 63) = 17 then
(fK17 sx L x m o i σ)
else
(if (v &&& 63) = 18 then
(fK18 sx L x m o i σ)
else
(if (v &&& 63) = 19 then
(fK19 sx L x m o i σ)
else
(if (v &&& 63) = 20 then
(fK20 sx L x m o i σ)
else
(if (v &&& 63) = 21 then
(fK21 sx L x m o i σ)
else
(if (v &&& 63) = 22 then
(fK22 sx L x m o i σ)
else
(if (v &&& 63) = 23 then
(fK23 sx L x m o i σ)
else
(if (v &&& 63) = 24 then
(fK24 sx L x m o i σ)
else
(if (v &&& 63) = 25 then
(fK25 sx L x m o i σ)
else
(if (v &&& 63) = 26 then
(fK26 sx L x m o i σ)
else
(if (v &&& 63) = 27 then
(fK27 sx L x m o i σ)
else
(if (v &&& 63) = 28 then
(fK28 sx L x m o i σ)
else
(if (v &&& 63) = 29 then
(fK29 sx L x m o i σ)
else
(if (v &&& 63) = 30 then
(fK30 sx L x m o i σ)
else
(if (v &&& 63) = 31 then
(fK31 sx L x m o i σ)
else
(if (v &&& 63) = 32 then
(fK32 sx L x m o i σ)
else
(if (v &&& 63) = 33 then
(fK33 sx L x m o i σ)
else
none))))))))))))))))))))))))))))))))))
set_option maxHeartbeats 4000000 in
set_option maxRecDepth 100000 in
theorem law_it {X : xX} {adK adV : Nat → Nat} {b L : Nat} {sx : Nat → Int32} {x m o : Nat} {i : Int32} {σ σ' : St} {k : Nat × Nat} (C : Ok X code 7 RL room_1 (some .boolean)) (hst : (xl X).stackTraces = false) (Ev : xEnv adK adV (xA X) (xs X)) (S : Scr X b L sx) (hk : k.1 + 10 ≤ room_1.cells ∧ k.2 + 60 ≤ room_1.slots) (hi : ¬ Int32.ofNat L - 6 < i) (hf : fIter sx L x m o i σ = some σ') (kk : ∀ k' : Nat × Nat, k'.1 ≤ k.1 + 10 ∧ k'.2 ≤ k.2 + 60 → Vz X k' σ' 23 [(0, .ref (b)), (1, .ref (x)), (2, .ref (m)), (3, .ref (o)), (4, .int (i + 6))] []) : Vz X k σ 23 [(0, .ref (b)), (1, .ref (x)), (2, .ref (m)), (3, .ref (o)), (4, .int (i))] [] := by
  unfold fIter at hf
  refine z_iload C dL_law_23 25 rfl 4 rfl ?_
  refine z_aload_n C dL_law_25 26 rfl 0 rfl rfl ?_
  refine z_slen C S dL_law_26 27 rfl ?_
  refine z_bipush C dL_law_27 29 rfl 6 (by decide) ?_
  refine z_isub C dL_law_29 30 rfl ?_
  refine z_icmp_gt C dL_law_30 2174 (by decide) 33 rfl (fun hc => absurd hc hi) (fun hc => ?_)
  refine z_aload_n C dL_law_33 34 rfl 0 rfl rfl ?_
  refine z_iload C dL_law_34 36 rfl 4 rfl ?_
  obtain ⟨v, hv, hf⟩ := x_bind hf
  refine z_sld C S hv dL_law_36 37 rfl ?_
  refine z_bipush C dL_law_37 39 rfl 63 (by decide) ?_
  refine z_iand C dL_law_39 40 rfl ?_
  have kt : ∀ k' : Nat × Nat, k'.1 ≤ k.1 + 10 ∧ k'.2 ≤ k.2 + 60 → Vz X k' σ' 2168 [(0, .ref (b)), (1, .ref (x)), (2, .ref (m)), (3, .ref (o)), (4, .int (i))] [] := by
    intro k' h
    refine z_iinc C dL_law_2168 2171 rfl 4 rfl (i + 6) rfl rfl [(4, .int (i + 6)), (0, .ref (b)), (1, .ref (x)), (2, .ref (m)), (3, .ref (o))] rfl ?_
    refine z_goto C dL_law_2171 23 (by decide) ?_
    refine z_lv [1, 2, 3, 4, 0] (lv' := [(0, .ref (b)), (1, .ref (x)), (2, .ref (m)), (3, .ref (o)), (4, .int (i + 6))]) rfl ?_
    exact kk k' h
  by_cases hc0 : (v &&& 63).toInt < 0 ∨ 33 < (v &&& 63).toInt
  · have hf := (if_pos hc0).symm.trans hf
    refine z_tableOut C dL_law_40 hc0 2168 (by decide) ?_
    have e9 := Option.some.inj hf
    subst e9
    exact kt k ⟨Nat.le_add_right _ _, Nat.le_add_right _ _⟩
  have hf := (if_neg hc0).symm.trans hf
  by_cases hj0 : (v &&& 63) = 0
  · have hf := (if_pos hj0).symm.trans hf
    refine z_topi hj0 ?_
    refine z_tableIn C dL_law_40 (by decide) (by decide) (off := 152) (by decide) 192 (by decide) ?_
    exact lK0 C hst Ev S hk hf kt
  have hf := (if_neg hj0).symm.trans hf
  by_cases hj1 : (v &&& 63) = 1
  · have hf := (if_pos hj1).symm.trans hf
    refine z_topi hj1 ?_
    refine z_tableIn C dL_law_40 (by decide) (by decide) (off := 225) (by decide) 265 (by decide) ?_
    exact lK1 C hst Ev S hk hf kt
  have hf := (if_neg hj1).symm.trans hf
  by_cases hj2 : (v &&& 63) = 2
  · have hf := (if_pos hj2).symm.trans hf
    refine z_topi hj2 ?_
    refine z_tableIn C dL_law_40 (by decide) (by decide) (off := 281) (by decide) 321 (by decide) ?_
    exact lK2 C hst Ev S hk hf kt
  have hf := (if_neg hj2).symm.trans hf
  by_cases hj3 : (v &&& 63) = 3
  · have hf := (if_pos hj3).symm.trans hf
    refine z_topi hj3 ?_
    refine z_tableIn C dL_law_40 (by decide) (by decide) (off := 294) (by decide) 334 (by decide) ?_
    exact lK3 C hst Ev S hk hf kt
  have hf := (if_neg hj3).symm.trans hf
  by_cases hj4 : (v &&& 63) = 4
  · have hf := (if_pos hj4).symm.trans hf
    refine z_topi hj4 ?_
    refine z_tableIn C dL_law_40 (by decide) (by decide) (off := 350) (by decide) 390 (by decide) ?_
    exact lK4 C hst Ev S hk hf kt
  have hf := (if_neg hj4).symm.trans hf
  by_cases hj5 : (v &&& 63) = 5
  · have hf := (if_pos hj5).symm.trans hf
    refine z_topi hj5 ?_
    refine z_tableIn C dL_law_40 (by decide) (by decide) (off := 446) (by decide) 486 (by decide) ?_
    exact lK5 C hst Ev S hk hf kt
  have hf := (if_neg hj5).symm.trans hf
  by_cases hj6 : (v &&& 63) = 6
  · have hf := (if_pos hj6).symm.trans hf
    refine z_topi hj6 ?_
    refine z_tableIn C dL_law_40 (by decide) (by decide) (off := 514) (by decide) 554 (by decide) ?_
    exact lK6 C hst Ev S hk hf kt
  have hf := (if_neg hj6).symm.trans hf
  by_cases hj7 : (v &&& 63) = 7
  · have hf := (if_pos hj7).symm.trans hf
    refine z_topi hj7 ?_
    refine z_tableIn C dL_law_40 (by decide) (by decide) (off := 582) (by decide) 622 (by decide) ?_
    exact lK7 C hst Ev S hk hf kt
  have hf := (if_neg hj7).symm.trans hf
  by_cases hj8 : (v &&& 63) = 8
  · have hf := (if_pos hj8).symm.trans hf
    refine z_topi hj8 ?_
    refine z_tableIn C dL_law_40 (by decide) (by decide) (off := 650) (by decide) 690 (by decide) ?_
    exact lK8 C hst Ev S hk hf kt
  have hf := (if_neg hj8).symm.trans hf
  by_cases hj9 : (v &&& 63) = 9
  · have hf := (if_pos hj9).symm.trans hf
    refine z_topi hj9 ?_
    refine z_tableIn C dL_law_40 (by decide) (by decide) (off := 718) (by decide) 758 (by decide) ?_
    exact lK9 C hst Ev S hk hf kt
  have hf := (if_neg hj9).symm.trans hf
  by_cases hj10 : (v &&& 63) = 10
  · have hf := (if_pos hj10).symm.trans hf
    refine z_topi hj10 ?_
    refine z_tableIn C dL_law_40 (by decide) (by decide) (off := 798) (by decide) 838 (by decide) ?_
    exact lK10 C hst Ev S hk hf kt
  have hf := (if_neg hj10).symm.trans hf
  by_cases hj11 : (v &&& 63) = 11
  · have hf := (if_pos hj11).symm.trans hf
    refine z_topi hj11 ?_
    refine z_tableIn C dL_law_40 (by decide) (by decide) (off := 866) (by decide) 906 (by decide) ?_
    exact lK11 C hst Ev S hk hf kt
  have hf := (if_neg hj11).symm.trans hf
  by_cases hj12 : (v &&& 63) = 12
  · have hf := (if_pos hj12).symm.trans hf
    refine z_topi hj12 ?_
    refine z_tableIn C dL_law_40 (by decide) (by decide) (off := 946) (by decide) 986 (by decide) ?_
    exact lK12 C hst Ev S hk hf kt
  have hf := (if_neg hj12).symm.trans hf
  by_cases hj13 : (v &&& 63) = 13
  · have hf := (if_pos hj13).symm.trans hf
    refine z_topi hj13 ?_
    refine z_tableIn C dL_law_40 (by decide) (by decide) (off := 1014) (by decide) 1054 (by decide) ?_
    exact lK13 C hst Ev S hk hf kt
  have hf := (if_neg hj13).symm.trans hf
  by_cases hj14 : (v &&& 63) = 14
  · have hf := (if_pos hj14).symm.trans hf
    refine z_topi hj14 ?_
    refine z_tableIn C dL_law_40 (by decide) (by decide) (off := 1094) (by decide) 1134 (by decide) ?_
    exact lK14 C hst Ev S hk hf kt
  have hf := (if_neg hj14).symm.trans hf
  by_cases hj15 : (v &&& 63) = 15
  · have hf := (if_pos hj15).symm.trans hf
    refine z_topi hj15 ?_
    refine z_tableIn C dL_law_40 (by decide) (by decide) (off := 1162) (by decide) 1202 (by decide) ?_
    exact lK15 C hst Ev S hk hf kt
  have hf := (if_neg hj15).symm.trans hf
  by_cases hj16 : (v &&& 63) = 16
  · have hf := (if_pos hj16).symm.trans hf
    refine z_topi hj16 ?_
    refine z_tableIn C dL_law_40 (by decide) (by decide) (off := 1242) (by decide) 1282 (by decide) ?_
    exact lK16 C hst Ev S hk hf kt
  have hf := (if_neg hj16).symm.trans hf
  by_cases hj17 : (v &&& 63) = 17
  · have hf := (if_pos hj17).symm.trans hf
    refine z_topi hj17 ?_
    refine z_tableIn C dL_law_40 (by decide) (by decide) (off := 1310) (by decide) 1350 (by decide) ?_
    exact lK17 C hst Ev S hk hf kt
  have hf := (if_neg hj17).symm.trans hf
  by_cases hj18 : (v &&& 63) = 18
  · have hf := (if_pos hj18).symm.trans hf
    refine z_topi hj18 ?_
    refine z_tableIn C dL_law_40 (by decide) (by decide) (off := 1378) (by decide) 1418 (by decide) ?_
    exact lK18 C hst Ev S hk hf kt
  have hf := (if_neg hj18).symm.trans hf
  by_cases hj19 : (v &&& 63) = 19
  · have hf := (if_pos hj19).symm.trans hf
    refine z_topi hj19 ?_
    refine z_tableIn C dL_law_40 (by decide) (by decide) (off := 1446) (by decide) 1486 (by decide) ?_
    exact lK19 C hst Ev S hk hf kt
  have hf := (if_neg hj19).symm.trans hf
  by_cases hj20 : (v &&& 63) = 20
  · have hf := (if_pos hj20).symm.trans hf
    refine z_topi hj20 ?_
    refine z_tableIn C dL_law_40 (by decide) (by decide) (off := 1509) (by decide) 1549 (by decide) ?_
    exact lK20 C hst Ev S hk hf kt
  have hf := (if_neg hj20).symm.trans hf
  by_cases hj21 : (v &&& 63) = 21
  · have hf := (if_pos hj21).symm.trans hf
    refine z_topi hj21 ?_
    refine z_tableIn C dL_law_40 (by decide) (by decide) (off := 1565) (by decide) 1605 (by decide) ?_
    exact lK21 C hst Ev S hk hf kt
  have hf := (if_neg hj21).symm.trans hf
  by_cases hj22 : (v &&& 63) = 22
  · have hf := (if_pos hj22).symm.trans hf
    refine z_topi hj22 ?_
    refine z_tableIn C dL_law_40 (by decide) (by decide) (off := 1578) (by decide) 1618 (by decide) ?_
    exact lK22 C hst Ev S hk hf kt
  have hf := (if_neg hj22).symm.trans hf
  by_cases hj23 : (v &&& 63) = 23
  · have hf := (if_pos hj23).symm.trans hf
    refine z_topi hj23 ?_
    refine z_tableIn C dL_law_40 (by decide) (by decide) (off := 1591) (by decide) 1631 (by decide) ?_
    exact lK23 C hst Ev S hk hf kt
  have hf := (if_neg hj23).symm.trans hf
  by_cases hj24 : (v &&& 63) = 24
  · have hf := (if_pos hj24).symm.trans hf
    refine z_topi hj24 ?_
    refine z_tableIn C dL_law_40 (by decide) (by decide) (off := 1604) (by decide) 1644 (by decide) ?_
    exact lK24 C hst Ev S hk hf kt
  have hf := (if_neg hj24).symm.trans hf
  by_cases hj25 : (v &&& 63) = 25
  · have hf := (if_pos hj25).symm.trans hf
    refine z_topi hj25 ?_
    refine z_tableIn C dL_law_40 (by decide) (by decide) (off := 1629) (by decide) 1669 (by decide) ?_
    exact lK25 C hst Ev S hk hf kt
  have hf := (if_neg hj25).symm.trans hf
  by_cases hj26 : (v &&& 63) = 26
  · have hf := (if_pos hj26).symm.trans hf
    refine z_topi hj26 ?_
    refine z_tableIn C dL_law_40 (by decide) (by decide) (off := 1725) (by decide) 1765 (by decide) ?_
    exact lK26 C hst Ev S hk hf kt
  have hf := (if_neg hj26).symm.trans hf
  by_cases hj27 : (v &&& 63) = 27
  · have hf := (if_pos hj27).symm.trans hf
    refine z_topi hj27 ?_
    refine z_tableIn C dL_law_40 (by decide) (by decide) (off := 1781) (by decide) 1821 (by decide) ?_
    exact lK27 C hst Ev S hk hf kt
  have hf := (if_neg hj27).symm.trans hf
  by_cases hj28 : (v &&& 63) = 28
  · have hf := (if_pos hj28).symm.trans hf
    refine z_topi hj28 ?_
    refine z_tableIn C dL_law_40 (by decide) (by decide) (off := 1856) (by decide) 1896 (by decide) ?_
    exact lK28 C hst Ev S hk hf kt
  have hf := (if_neg hj28).symm.trans hf
  by_cases hj29 : (v &&& 63) = 29
  · have hf := (if_pos hj29).symm.trans hf
    refine z_topi hj29 ?_
    refine z_tableIn C dL_law_40 (by decide) (by decide) (off := 1936) (by decide) 1976 (by decide) ?_
    exact lK29 C hst Ev S hk hf kt
  have hf := (if_neg hj29).symm.trans hf
  by_cases hj30 : (v &&& 63) = 30
  · have hf := (if_pos hj30).symm.trans hf
    refine z_topi hj30 ?_
    refine z_tableIn C dL_law_40 (by decide) (by decide) (off := 2016) (by decide) 2056 (by decide) ?_
    exact lK30 C hst Ev S hk hf kt
  have hf := (if_neg hj30).symm.trans hf
  by_cases hj31 : (v &&& 63) = 31
  · have hf := (if_pos hj31).symm.trans hf
    refine z_topi hj31 ?_
    refine z_tableIn C dL_law_40 (by decide) (by decide) (off := 2091) (by decide) 2131 (by decide) ?_
    exact lK31 C hst Ev S hk hf kt
  have hf := (if_neg hj31).symm.trans hf
  by_cases hj32 : (v &&& 63) = 32
  · have hf := (if_pos hj32).symm.trans hf
    refine z_topi hj32 ?_
    refine z_tableIn C dL_law_40 (by decide) (by decide) (off := 2104) (by decide) 2144 (by decide) ?_
    exact lK32 C hst Ev S hk hf kt
  have hf := (if_neg hj32).symm.trans hf
  by_cases hj33 : (v &&& 63) = 33
  · have hf := (if_pos hj33).symm.trans hf
    refine z_topi hj33 ?_
    refine z_tableIn C dL_law_40 (by decide) (by decide) (off := 2115) (by decide) 2155 (by decide) ?_
    exact lK33 C hst Ev S hk hf kt
  have hf := (if_neg hj33).symm.trans hf
  cases hf
/-- from here on the pure functions go through: n iterations at most -/
def LawOk (sx : Nat → Int32) (L : Nat) (x m o : Nat) : Nat → Int32 → St → Prop
  | 0, i, _ => Int32.ofNat L - 6 < i
  | n + 1, i, σ => Int32.ofNat L - 6 < i ∨ (¬ Int32.ofNat L - 6 < i ∧ ∃ σ', fIter sx L x m o i σ = some σ' ∧ LawOk sx L x m o n (i + 6) σ')
theorem law_out {X : xX} {b L : Nat} {sx : Nat → Int32} {x m o : Nat} {i : Int32} {σ : St} {k : Nat × Nat} (C : Ok X code 7 RL room_1 (some .boolean)) (S : Scr X b L sx) (hQ : ∀ (H : Heap) (locs : List Loc) (ls : Array Slot), va_S (xA X) (xs X).heap H locs → W (xp X) (xl X) (xe X) (xR X) (xs X) (xm X) (xa X) (xb X) (xh X) (xc X) H locs k.1 k.2 (xQ X) (F0 (xm X) 2175 ls [.int 1])) (hi : Int32.ofNat L - 6 < i) : Vz X k σ 23 [(0, .ref (b)), (1, .ref (x)), (2, .ref (m)), (3, .ref (o)), (4, .int (i))] [] := by
  refine z_iload C dL_law_23 25 rfl 4 rfl ?_
  refine z_aload_n C dL_law_25 26 rfl 0 rfl rfl ?_
  refine z_slen C S dL_law_26 27 rfl ?_
  refine z_bipush C dL_law_27 29 rfl 6 (by decide) ?_
  refine z_isub C dL_law_29 30 rfl ?_
  refine z_icmp_gt C dL_law_30 2174 (by decide) 33 rfl (fun hc => ?_) (fun hc => absurd hi hc)
  refine z_iconst C dL_law_2174 2175 rfl 1 (by decide) ?_
  exact fun H locs ls hW hS hl => hQ H locs ls hS
theorem law_loop {X : xX} {adK adV : Nat → Nat} {b L : Nat} {sx : Nat → Int32} {x m o : Nat} (C : Ok X code 7 RL room_1 (some .boolean)) (hst : (xl X).stackTraces = false) (Ev : xEnv adK adV (xA X) (xs X)) (S : Scr X b L sx) (hQ : ∀ (k : Nat × Nat) (H : Heap) (locs : List Loc) (ls : Array Slot), k.1 ≤ room_1.cells ∧ k.2 ≤ room_1.slots → va_S (xA X) (xs X).heap H locs → W (xp X) (xl X) (xe X) (xR X) (xs X) (xm X) (xa X) (xb X) (xh X) (xc X) H locs k.1 k.2 (xQ X) (F0 (xm X) 2175 ls [.int 1])) :
    ∀ (n : Nat) (i : Int32) (σ : St) (k : Nat × Nat), LawOk sx L x m o n i σ → k.1 + 10 * n ≤ room_1.cells ∧ k.2 + 60 * n ≤ room_1.slots → Vz X k σ 23 [(0, .ref (b)), (1, .ref (x)), (2, .ref (m)), (3, .ref (o)), (4, .int (i))] [] := by
  intro n
  induction n with
  | zero => intro i σ k h hk; exact law_out C S (fun H locs ls hS => hQ k H locs ls ⟨by omega, by omega⟩ hS) h
  | succ n ih =>
    intro i σ k h hk
    rcases h with h | ⟨h1, σ', h2, h3⟩
    · exact law_out C S (fun H locs ls hS => hQ k H locs ls ⟨by omega, by omega⟩ hS) h
    · exact law_it C hst Ev S ⟨by omega, by omega⟩ h1 h2 (fun k' hk' => ih (i + 6) σ' k' h3 ⟨by omega, by omega⟩)
