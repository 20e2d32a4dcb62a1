/-! CONSTRUCTORS: they make cells, the next one at the heap's size; contract, rows -/
def xNest : List Cond := [.methodLinkNest RX11 22 yX2_init RX11, .methodLinkNest RX0 24 yX2_init RX11, .methodLinkNest RX11 96 yX4_init RX11]
theorem xNest_warm {s U : State} (hW : s.WarmedH U.vm) (h : ∀ w ∈ xNest, va_Nw w s) : ∀ w ∈ xNest, va_Nw w U := by
  intro w hw
  have h1 := h w hw
  simp only [xNest, List.mem_cons, List.not_mem_nil, or_false] at hw
  rcases hw with rfl | rfl | rfl <;> exact va_Nw.warmM hW h1
theorem xNest_same {s U : State} (hv : s.vm = U.vm) (h : ∀ w ∈ xNest, va_Nw w s) : ∀ w ∈ xNest, va_Nw w U := by
  intro w hw
  have h1 := h w hw
  simp only [xNest, List.mem_cons, List.not_mem_nil, or_false] at hw
  rcases hw with rfl | rfl | rfl <;> exact va_Nw.same rfl hv h1
def xMk (U : State) : Prop := (∀ w ∈ xNest, va_Nw w U) ∧ va_AO RX2 U
def xPreA (G : xG) (A : Nat → Prop) (σ : St) (h : Nat) (U : State) : Prop := xPre G A σ U ∧ U.heap.size = h ∧ xMk U
def aQ (G : xG) (A : Nat → Prop) (σ : St) (n : Nat) : Array Value → State → Outcome → State → Prop := fun _ st oc t => oc = .returned none ∧ Wd G A σ t.heap ∧ t.heap.size = n ∧ va_F A st t
/-- a constructor's contract: from the heap's size h on mc cells of ms slots come -/
def ConA (l : Launch) (y : MethodName) (ws : List Cond) (rm : Room) (mc ms : Nat) (as : List Value) (G : xG) (A : Nat → Prop) (σ : St) (h : Nat) (σ' : St) : Prop := Met l y ws rm (va_Pc as (xPreA G A σ h)) (aQ G A σ' (h + mc)) mc ms A
def aE (X : xX) (mc ms n : Nat) (σ' : St) : Prop := xQ X = MQ (xb X) (aQ (xGd X) (xA X) σ' n) (xa X) (xs X) mc ms (xA X)
def OkA (X : xX) (h : Nat) : Prop := (xs X).heap.size = h ∧ xMk (xs X) ∧ (xh X).name = "<init>"
theorem a_start {l : Launch} {y : MethodName} {cc : ByteArray} {maxL : Nat} {rm : Room} {mc ms : Nat} {as : List Value} {G : xG} {A : Nat → Prop} {σ σ' : St} {h : Nat} (hy : plainName y.cls = true) (hnm : y.name = "<init>") (hlen : (lg_sl as).length ≤ maxL)
    (hb : ∀ X : xX, xl X = l → xGd X = G → xA X = A → Ok X cc maxL y.cls rm none → OkA X h → aE X mc ms (h + mc) σ' → V X (0, 0) σ 0 (lv_args 0 as) []) : ConA l y (xws y cc maxL none) rm mc ms as G A σ h σ' := by
  refine Met.ofW (cc := cc) (maxL := maxL) (ret := none) hy rfl ?_
  intro p e s m args below meth c s₁ B hml hv
  obtain ⟨rfl, ⟨hW, hK, hA⟩, hh, hM⟩ := hv
  have hts := atoms_spec (ws := xws y cc maxL none) B.pre
  have hl := lv_entry as (n := maxL) hlen
  rw [lg_entry_eq]
  exact hb (p, l, e, (headSpec (xws y cc maxL none) rm).room, s, m, as.toArray, below, meth, c, maxL, A, G, MQ below (aQ G A σ' (h + mc)) as.toArray s mc ms A) rfl rfl rfl ⟨B.exec, B.bytes, ⟨hml, rfl⟩, findClass_of_methodNamed B.named, fun w hw => hts w (List.mem_cons_of_mem _ hw), ⟨B.notSynchronized, B.returns⟩, rfl, hK, hA⟩ ⟨hh, hM, by rw [(name_of_methodNamed B.named B.method).1, hnm]⟩ rfl s.heap [] _ rfl hW va_S.rf hl
theorem Wd_push {G : xG} {A : Nat → Prop} {σ : St} {H1 : Heap} {ws : va_W} {a : Nat} {e : xE} (hw : ∀ (q : Nat) (e : xE), σ q = some e → ∃ i : Nat, ws[i]? = some (q, x_e G e)) (hP : va_P (x_D G) x_cl (ws ++ [(a, x_e G e)]) H1) (hD : va_D A (ws ++ [(a, x_e G e)])) : Wd G A (xu σ a e) H1 := by
  refine ⟨_, hP, hD, fun q2 e2 h2 => ?_⟩
  unfold xu at h2
  by_cases hq : q2 = a
  · subst hq
    rw [if_pos rfl] at h2
    cases h2
    exact ⟨ws.length, by rw [List.getElem?_append_right (Nat.le_refl _), Nat.sub_self]; rfl⟩
  · rw [if_neg hq] at h2
    obtain ⟨j, hj⟩ := hw q2 e2 h2
    exact ⟨j, by rw [List.getElem?_append_left (List.getElem?_eq_some_iff.mp hj).1]; exact hj⟩
section XV
variable {X : xX} {h mc ms : Nat} {k : Nat × Nat} {σ σ' : St} {pc : Nat} {lv : List (Nat × Value)} {st : List Value} {cc : ByteArray} {nL : Nat} {own : String} {rm : Room} {ret : Option FieldType}
/-- a cell more, at the heap's size -/
theorem a_after {H H1 : Heap} {locs : List Loc} {ls : Array Slot} {n : Nat} {e : xE} (C : Ok X cc nL own rm ret) (O : OkA X h) {a : Nat} (ha : h + k.1 = a) {σ1 : St} (hσ1 : xu σ a e = σ1) {k' : Nat × Nat} (hk' : (k.1 + 1, k.2 + n) = k') (kk : V X k' σ1 pc lv st) (hz : H.size = (xs X).heap.size + k.1) (hW : Wd (xGd X) (xA X) σ H) (hS : va_S (xA X) (xs X).heap H locs) (hl : lv_has ls (xn X) lv)
    (e1 : va_at (x_D (xGd X)) x_cl (a, x_e (xGd X) e) H1) (z1 : H1.size = H.size + 1) (o1 : ∀ q, q < H.size → H1[q]? = H[q]?) :
    W (xp X) (xl X) (xe X) (xR X) (xs X) (xm X) (xa X) (xb X) (xh X) (xc X) H1 locs (k.1 + 1) (k.2 + n) (xQ X) (F0 (xm X) pc ls st) := by
  subst hσ1; subst hk'
  obtain ⟨ws, hP, hD, hw⟩ := id hW
  have hs : a = H.size := by rw [hz, O.1]; exact ha.symm
  have hk9 : ∀ (i : Nat) (x : Nat × va_E), ws[i]? = some x → H1[x.1]? = H[x.1]? := fun i x hx => o1 x.1 ((hP i x hx).lt)
  refine kk H1 locs ls (by show H1.size = _ + (k.1 + 1); omega) (Wd_push hw ((hP.kept hk9).app (fun i x hx => ?_)) (hD.push hP hs (C.2.2.2.2.2.2.2.2 a (by rw [hs]; exact hS.1)))) ⟨Nat.le_trans hS.1 (by omega), fun x h1 h2 => (o1 x (Nat.lt_of_lt_of_le h1 hS.1)).trans (hS.2.1 x h1 h2), hS.2.2⟩ hl
  have hz9 : i < 1 := (List.getElem?_eq_some_iff.mp hx).1
  rw [show i = 0 by omega] at hx
  cases hx
  exact e1
theorem a_new (C : Ok X cc nL own rm ret) (O : OkA X h) {idx ci N : Nat} {Cn : String} {T : u_T} {ty : Nat → FieldType} (d : decode cc pc = .ok (.new idx, 3)) (pc' : Nat) (hp : pc + 3 = pc') (hc : xCls ci Cn T N ty) (hcl : Cond.classLink own idx Cn ∈ gt) (hins : Cond.instantiable Cn N ∈ gt) (hini : Cond.initialized Cn ∈ gt) (fs : List Value) (hfs : ∀ j, j < N → defaultValue (ty j) = vp_V fs j) (a : Nat) (ha : h + k.1 = a) (hr : k.1 + 1 ≤ rm.cells ∧ k.2 + N ≤ rm.slots) {σ1 : St} (hσ1 : xu σ a (.inr (ci, fs)) = σ1) (k' : Nat × Nat) (hk' : (k.1 + 1, k.2 + N) = k') (kk : V X k' σ1 pc' lv (.ref a :: st)) : V X k σ pc lv st := by
  subst hp
  intro H locs ls hz hW hS hl
  have hts := C.2.2.2.2.1
  have hRR := C.2.2.2.2.2.2.1
  have hKn := C.2.2.2.2.2.2.2.1.1 ci _ hc.1
  refine W.newcK C.1 C.2.1 C.2.2.2.1 (hts _ hcl) (hts _ hins) (hts _ hini) rfl d (by rw [hRR]; exact hr.1) (by rw [hRR]; exact hr.2) hKn.2.1 (h := a) (by rw [hz, O.1]; exact ha) fun H1 kC hkC e1 z1 o1 => ?_
  have hs : a = H.size := by rw [hz, O.1]; exact ha.symm
  exact a_after C O ha hσ1 hk' kk hz hW hS hl ⟨_, hc.1, (u_born ty hts hc.2.1 hKn hkC e1 hc.2.2.1).to hfs⟩ (by rw [z1, hs]) (fun q hq => o1 q (by rw [hs]; exact hq))
theorem a_newI (C : Ok X cc nL own rm ret) (O : OkA X h) {n : Int32} {N : Nat} (d : decode cc pc = .ok (.newarray .int, 2)) (pc' : Nat) (hp : pc + 2 = pc') (hw : Cond.arrayClass .int ∈ gt) (hn : ¬ n < 0) (hN : n.toNatClampNeg = N) (hby : N * 4 ≤ 536870912) (a : Nat) (ha : h + k.1 = a) (hr : k.1 + 1 ≤ rm.cells ∧ k.2 + N ≤ rm.slots) {σ1 : St} (hσ1 : xu σ a (.inl (0, N, .inl (fun _ => 0))) = σ1) (k' : Nat × Nat) (hk' : (k.1 + 1, k.2 + N) = k') (kk : V X k' σ1 pc' lv (.ref a :: st)) : V X k σ pc lv (.int n :: st) := by
  subst hp
  intro H locs ls hz hW hS hl
  have hts := C.2.2.2.2.1
  have hRR := C.2.2.2.2.2.2.1
  have hs : a = H.size := by rw [hz, O.1]; exact ha.symm
  refine va_newaK (atype := .int) C.1 C.2.1 (hts _ hw) rfl d rfl hn hN hby (by rw [hRR]; exact hr.1) (by rw [hRR]; exact hr.2) (h := a) hs.symm fun H1 cA e1 z1 o1 hAr hNm => ?_
  have hcA : cA = (xGd X).2.2 0 := Option.some.inj (hNm.symm.trans (C.2.2.2.2.2.2.2.1.2 0 _ rfl).2)
  refine a_after C O ha hσ1 hk' kk hz hW hS hl ?_ (by rw [z1, hs]) (fun q hq => o1 q (by rw [hs]; exact hq))
  rw [hcA] at e1
  exact e1
theorem a_newL (C : Ok X cc nL own rm ret) (O : OkA X h) {n : Int32} {N : Nat} (d : decode cc pc = .ok (.newarray .long, 2)) (pc' : Nat) (hp : pc + 2 = pc') (hw : Cond.arrayClass .long ∈ gt) (hn : ¬ n < 0) (hN : n.toNatClampNeg = N) (hby : N * 8 ≤ 536870912) (a : Nat) (ha : h + k.1 = a) (hr : k.1 + 1 ≤ rm.cells ∧ k.2 + N ≤ rm.slots) {σ1 : St} (hσ1 : xu σ a (.inl (1, N, .inr (.inl (fun _ => 0)))) = σ1) (k' : Nat × Nat) (hk' : (k.1 + 1, k.2 + N) = k') (kk : V X k' σ1 pc' lv (.ref a :: st)) : V X k σ pc lv (.int n :: st) := by
  subst hp
  intro H locs ls hz hW hS hl
  have hts := C.2.2.2.2.1
  have hRR := C.2.2.2.2.2.2.1
  have hs : a = H.size := by rw [hz, O.1]; exact ha.symm
  refine va_newaK (atype := .long) C.1 C.2.1 (hts _ hw) rfl d rfl hn hN hby (by rw [hRR]; exact hr.1) (by rw [hRR]; exact hr.2) (h := a) hs.symm fun H1 cA e1 z1 o1 hAr hNm => ?_
  have hcA : cA = (xGd X).2.2 1 := Option.some.inj (hNm.symm.trans (C.2.2.2.2.2.2.2.1.2 1 _ rfl).2)
  refine a_after C O ha hσ1 hk' kk hz hW hS hl ?_ (by rw [z1, hs]) (fun q hq => o1 q (by rw [hs]; exact hq))
  rw [hcA] at e1
  exact e1
theorem a_newB (C : Ok X cc nL own rm ret) (O : OkA X h) {n : Int32} {N : Nat} (d : decode cc pc = .ok (.newarray .byte, 2)) (pc' : Nat) (hp : pc + 2 = pc') (hw : Cond.arrayClass .byte ∈ gt) (hn : ¬ n < 0) (hN : n.toNatClampNeg = N) (hby : N * 1 ≤ 536870912) (a : Nat) (ha : h + k.1 = a) (hr : k.1 + 1 ≤ rm.cells ∧ k.2 + N ≤ rm.slots) {σ1 : St} (hσ1 : xu σ a (.inl (2, N, .inl (fun _ => 0))) = σ1) (k' : Nat × Nat) (hk' : (k.1 + 1, k.2 + N) = k') (kk : V X k' σ1 pc' lv (.ref a :: st)) : V X k σ pc lv (.int n :: st) := by
  subst hp
  intro H locs ls hz hW hS hl
  have hts := C.2.2.2.2.1
  have hRR := C.2.2.2.2.2.2.1
  have hs : a = H.size := by rw [hz, O.1]; exact ha.symm
  refine va_newaK (atype := .byte) C.1 C.2.1 (hts _ hw) rfl d rfl hn hN hby (by rw [hRR]; exact hr.1) (by rw [hRR]; exact hr.2) (h := a) hs.symm fun H1 cA e1 z1 o1 hAr hNm => ?_
  have hcA : cA = (xGd X).2.2 2 := Option.some.inj (hNm.symm.trans (C.2.2.2.2.2.2.2.1.2 2 _ rfl).2)
  refine a_after C O ha hσ1 hk' kk hz hW hS hl ?_ (by rw [z1, hs]) (fun q hq => o1 q (by rw [hs]; exact hq))
  rw [hcA] at e1
  exact e1
theorem a_newR (C : Ok X cc nL own rm ret) (O : OkA X h) {idx N : Nat} {n : Int32} (d : decode cc pc = .ok (.anewarray idx, 3)) (pc' : Nat) (hp : pc + 3 = pc') (hcl : Cond.classLink own idx RX2 ∈ gt) (hn : ¬ n < 0) (hN : n.toNatClampNeg = N) (hby : N * 4 ≤ 536870912) (a : Nat) (ha : h + k.1 = a) (hr : k.1 + 1 ≤ rm.cells ∧ k.2 + N ≤ rm.slots) {σ1 : St} (hσ1 : xu σ a (.inl (3, N, .inr (.inr (.inr (.inr (fun _ => none)))))) = σ1) (k' : Nat × Nat) (hk' : (k.1 + 1, k.2 + N) = k') (kk : V X k' σ1 pc' lv (.ref a :: st)) : V X k σ pc lv (.int n :: st) := by
  subst hp; subst hN
  intro H locs ls hz hW hS hl
  have hts := C.2.2.2.2.1
  have hRR := C.2.2.2.2.2.2.1
  have hs : a = H.size := by rw [hz, O.1]; exact ha.symm
  refine W.anew C.1 C.2.1 C.2.2.2.1 (hts _ hcl) (va_AO.use O.2.1.2) rfl d rfl hn hby (by rw [hRR]; exact hr.1) (by rw [hRR]; exact hr.2) fun cA kA comp f1 f2 f3 f4 => ?_
  obtain ⟨kA9, comp9, g1, g2, g3, g4⟩ := (C.2.2.2.2.2.2.2.1.2 3 _ rfl).2
  have hcA : cA = (xGd X).2.2 3 := Option.some.inj (f1.symm.trans g4)
  subst hs
  refine a_after C O ha hσ1 hk' kk hz hW hS hl ?_ (by rw [Array.size_push]) (fun q hq => by rw [Array.getElem?_push, if_neg (Nat.ne_of_lt hq)])
  show _ = some (vp_cell _ _)
  rw [Array.getElem?_push_size, vp_cell_q, ← hcA, ← arrV_new]
  rfl
theorem a_putF (C : Ok X cc nL own rm ret) (O : OkA X h) {idx ci j N q : Nat} {Cn : String} {T : u_T} {ty : Nat → FieldType} {v : Value} (d : decode cc pc = .ok (.putfield idx, 3)) (pc' : Nat) (hp : pc + 3 = pc') (hv : wrF σ q ci j v = some σ') (hc : xCls ci Cn T N ty) (hj : Nat.blt j N = true) (hl : Cond.fieldLink own idx Cn (T j).2.1 (T j).2.2.1 ∈ gt) (hfin : (T j).2.2.2 = true) (hown : Cn = own) (hn : narrow (ty j) v = v) (hfit : fits (ty j) v = true) (kk : V X k σ' pc' lv st) : V X k σ pc lv (v :: .ref q :: st) := by
  subst hp
  intro H locs ls hz hW hS hlv
  obtain ⟨fs, h1, h2, rfl⟩ := wrF_some hv
  obtain ⟨ws, hP, hD, hw⟩ := id hW
  obtain ⟨i, hi⟩ := hw q _ h1
  have hjN : j < N := Nat.le_of_ble_eq_true hj
  exact va_putF C.1 C.2.1 C.2.2.2.2.1 hc.2.1 ty hc.2.2.1 hc.2.2.2.1 C.2.2.2.1 C.2.2.2.2.2.2.2.1 hP hD (x_self hS) i hi hc.1 j hjN (C.2.2.2.2.1 _ hl) (fun x h => by rw [hc.2.2.2.2 j hjN] at h; exact h) hfin O.2.2 (by rw [hc.2.2.2.2 j hjN]; exact hown) (hc.2.2.1 j hjN) hn hfit h2 d
    (fun H1 locs1 hP1 hD1 hS1 => x_after kk hz hS hS1 (Wd_set (e' := .inr (ci, fs.set j v)) hw hD hi hP1 hD1) hlv)
def sR (σ : St) (q : Nat) (i : Int32) (v : Nat) : Option St := (arR σ q).bind fun a => if i < 0 ∨ a.1 ≤ i.toNatClampNeg then none else some (xu σ q (.inl (3, a.1, .inr (.inr (.inr (.inr (va_up a.2 i.toNatClampNeg (some v))))))))
theorem a_aastore (C : Ok X cc nL own rm ret) {q v : Nat} {i : Int32} {u : Unit} (d : decode cc pc = .ok (.aastore, 1)) (pc' : Nat) (hp : pc + 1 = pc') (ho : isO σ v 2 = some u) (hv : sR σ q i v = some σ') (kk : V X k σ' pc' lv st) : V X k σ pc lv (.ref v :: .int i :: .ref q :: st) := by
  subst hp
  intro H locs ls hz hW hS hlv
  obtain ⟨⟨n, f⟩, h1, h2⟩ := x_bind hv
  split at h2
  · cases h2
  · rename_i hin
    cases h2
    obtain ⟨fs, h3⟩ := isO_some ho
    obtain ⟨ws, hP, hD, hw⟩ := id hW
    obtain ⟨i0, hi⟩ := hw q _ (arR_some h1)
    obtain ⟨i1, hi1⟩ := hw v _ h3
    exact va_astq (r := (RX2, TX2, 5)) C.1 C.2.1 C.2.2.2.2.2.2.2.1 hP hD (x_self hS) i0 3 i1 2 hi rfl hi1 rfl hin d
      (fun H1 locs1 hP1 hD1 hS1 => x_after kk hz hS hS1 (Wd_set (e' := .inl (3, n, .inr (.inr (.inr (.inr (va_up f i.toNatClampNeg (some v))))))) hw hD hi hP1 hD1) hlv)
theorem a_obj (C : Ok X cc nL own rm ret) {idx a : Nat} (d : decode cc pc = .ok (.invokespecial idx, 3)) (pc' : Nat) (hp : pc + 3 = pc') (hl : Cond.methodLink own idx Lib.objectInit ∈ gt) (hw : Cond.instanceMethod Lib.objectInit ∈ gt ∧ Cond.code Lib.objectInit ⟨#[0xb1]⟩ 1 none ∈ gt) (hR : 1 ≤ rm.frames ∧ (st.map fun v => v.category).sum + 12 ≤ rm.locals) (kk : V X k σ pc' lv st) : V X k σ pc lv (.ref a :: st) := by
  subst hp
  intro H locs ls hz hW hS hlv
  have hts := C.2.2.2.2.1
  have hRR := C.2.2.2.2.2.2.1
  exact W.objInit C.1 C.2.1 C.2.2.2.1 (hts _ hl) (hts _ hw.1) (hts _ hw.2) rfl (by show ls.size = _; rw [hlv.1, C.2.2.1.2, C.2.2.1.1]) rfl d (by rw [hRR]; exact hR.1) (by rw [hRR]; show 2 * 0 + _ + 12 ≤ _; omega) (kk H locs ls hz hW hS hlv)
theorem a_vret (C : Ok X cc nL own rm none) (O : OkA X h) (hE : aE X mc ms (h + mc) σ) (hk : (mc, ms) = k) (d : decode cc pc = .ok (.return_, 1)) : V X k σ pc lv [] := by
  subst hk
  intro H locs ls hz hW hS hlv
  rw [hE]
  exact W.vret C.1 C.2.1 C.2.2.2.2.2.1.2 (fun t ht hm => ⟨rfl, by rw [ht]; exact hW, by rw [ht, hz, O.1], hS.F ht⟩) hS.2.2 d (hlocks := C.2.2.2.2.2.1.1)
theorem a_blind {as : List Value} {G : xG} {A : Nat → Prop} {σ : St} {h : Nat} : FrameBlind (va_Pc as (xPreA G A σ h)) := by
  intro a U g mk q
  obtain ⟨q0, ⟨qW, qK, qA⟩, hh, hM⟩ := q
  exact ⟨q0, ⟨qW, va_K.moved (u := U) (U := U.calling g mk a) (Vm.Alike.refl U.vm) qK, qA⟩, hh, xNest_same (s := U) (U := U.calling g mk a) rfl hM.1, va_AO.moved (u := U) (U := U.calling g mk a) (Vm.Alike.refl U.vm) hM.2⟩
theorem a_pre (C : Ok X cc nL own rm ret) (O : OkA X h) {a : Nat} (ha : h + k.1 = a) {H : Heap} {locs : List Loc} {as : List Value} (hz : H.size = (xs X).heap.size + k.1) (hW : Wd (xGd X) (xA X) σ H) (hS : va_S (xA X) (xs X).heap H locs) : ∀ U : State, U.heap = H → (xs X).WarmedH U.vm → va_Pc as (xPreA (xGd X) (xA X) σ a) as.toArray U := by
  intro U hU hm
  obtain ⟨h1, h2⟩ := x_pre (as := as) C hW hS U hU hm
  exact ⟨h1, h2, by rw [hU, hz, O.1]; exact ha, xNest_warm hm O.2.1.1, va_AO.moved hm.alike O.2.1.2⟩
theorem a_run (C : Ok X cc nL own rm ret) (O : OkA X h) {mc' ms' a0 : Nat} (ha : h + k.1 = a0) {H : Heap} {locs : List Loc} {ls : Array Slot} {st0 : List Value} {a : Array Value} (hr : va_Run (xp X) (xl X) (xe X) (xR X) (xs X) (xm X) (xa X) (xb X) (xh X) (xc X) H locs k.1 k.2 mc' ms' (F0 (xm X) pc ls st0) st (aQ (xGd X) (xA X) σ' (a0 + mc') a) (xA X))
    (hS : va_S (xA X) (xs X).heap H locs) (hlv : lv_has ls (xn X) lv) {k' : Nat × Nat} (hk' : (k.1 + mc', k.2 + ms') = k') (kk : V X k' σ' (pc + 3) lv st) : W (xp X) (xl X) (xe X) (xR X) (xs X) (xm X) (xa X) (xb X) (xh X) (xc X) H locs k.1 k.2 (xQ X) (F0 (xm X) pc ls st0) := by
  subst hk'
  intro T hT XS
  obtain ⟨v', st₀, t, T', L, h0, X', hL, e1, e2, ⟨hv, hWd, hsz, hF⟩, stp⟩ := hr T hT XS
  cases hv
  have hF1 := hF.1
  have hF2 := hF.2
  rw [h0] at hF1 hF2
  obtain ⟨t2, a1, b1⟩ := kk T'.heap (locs ++ L) ls (by rw [e1, hsz, O.1, ← ha, Nat.add_assoc]) (by rw [e1]; exact hWd) ⟨by rw [e1]; exact Nat.le_trans hS.1 hF1, fun q h1 h2 => by rw [e1, hF2 q (Nat.lt_of_lt_of_le h1 hS.1) h2]; exact hS.2.1 q h1 h2, fun q hq => by
      rcases List.mem_append.mp hq with h | h
      · exact hS.2.2 q h
      · exact hL q h⟩ hlv T' rfl X'
  exact ⟨t2, stp t2 a1, b1⟩
theorem a_init (C : Ok X cc nL own rm ret) (O : OkA X h) {idx n na q a mc' ms' : Nat} {y : MethodName} {b : ByteArray} {rm' : Room} {as stk : List Value} (d : decode cc pc = .ok (.invokespecial idx, 3)) (pc' : Nat) (hp : pc + 3 = pc') (ha : h + k.1 = a) (hM : ConA (xl X) y (xws y b n none) rm' mc' ms' (.ref q :: as) (xGd X) (xA X) σ a σ') (hy : xCal y b n none na) (hst : Cond.instanceMethod y ∈ gt ∧ y.name = "<init>") (hl : Cond.methodLink own idx y ∈ gt)
    (hrm : rm'.cells = mc' ∧ rm'.slots = ms') (hR : rm'.frames + 1 ≤ rm.frames ∧ 8 + (n + 11) + rm'.locals ≤ rm.locals) (hk : k.1 + mc' ≤ rm.cells ∧ k.2 + ms' ≤ rm.slots) (hna : as.length = na) (hstk : stk = as.reverse ++ .ref q :: st) (hcat : (st.map fun v => v.category).sum ≤ 8) (k' : Nat × Nat) (hk' : (k.1 + mc', k.2 + ms') = k') (kk : V X k' σ' pc' lv st) : V X k σ pc lv stk := by
  subst hp; subst hstk
  intro H locs ls hz hW hS hlv
  have hts := C.2.2.2.2.1
  have hRR := C.2.2.2.2.2.2.1
  exact a_run C O ha (va_runI (As := as) (rest := st) ⟨C.1, C.2.1, C.2.2.1.1, C.2.2.2.1, hts⟩ hM ⟨callB_of na hts (good_xws hy.1) rfl hrm.1 hrm.2 (hts _ hy.2.1) (hts _ hl) hy.2.2 (by rw [hRR]; exact hR), hst.2, hts _ hst.1⟩ ⟨a_blind, a_pre (as := .ref q :: as) C O ha hz hW hS⟩ rfl hna (by show ls.size = _; rw [hlv.1, C.2.2.1.2]) rfl (lv_room hcat) d (by rw [hRR]; exact hk)) hS hlv hk' kk
theorem a_initN (C : Ok X cc nL own rm ret) (O : OkA X h) {idx n na q a mc' ms' : Nat} {y : MethodName} {b : ByteArray} {rm' : Room} {as stk : List Value} {host : String} (d : decode cc pc = .ok (.invokespecial idx, 3)) (pc' : Nat) (hp : pc + 3 = pc') (ha : h + k.1 = a) (hM : ConA (xl X) y (xws y b n none) rm' mc' ms' (.ref q :: as) (xGd X) (xA X) σ a σ') (hy : xCal y b n none na) (hst : Cond.instanceMethod y ∈ gt ∧ y.name = "<init>") (hl : Cond.methodLinkNest own idx y host ∈ xNest)
    (hrm : rm'.cells = mc' ∧ rm'.slots = ms') (hR : rm'.frames + 1 ≤ rm.frames ∧ 8 + (n + 11) + rm'.locals ≤ rm.locals) (hk : k.1 + mc' ≤ rm.cells ∧ k.2 + ms' ≤ rm.slots) (hna : as.length = na) (hstk : stk = as.reverse ++ .ref q :: st) (hcat : (st.map fun v => v.category).sum ≤ 8) (k' : Nat × Nat) (hk' : (k.1 + mc', k.2 + ms') = k') (kk : V X k' σ' pc' lv st) : V X k σ pc lv stk := by
  subst hp; subst hstk
  intro H locs ls hz hW hS hlv
  have hts := C.2.2.2.2.1
  have hRR := C.2.2.2.2.2.2.1
  exact a_run C O ha (va_runIN (As := as) (rest := st) ⟨C.1, C.2.1, C.2.2.1.1, C.2.2.2.1, hts⟩ hM ⟨va_cnB na hts (good_xws hy.1) rfl hrm.1 hrm.2 (O.2.1.1 _ hl) (hts _ hy.2.1) hy.2.2 (by rw [hRR]; exact hR), hst.2, hts _ hst.1⟩ ⟨a_blind, a_pre (as := .ref q :: as) C O ha hz hW hS⟩ rfl hna (by show ls.size = _; rw [hlv.1, C.2.2.1.2]) rfl (lv_room hcat) d (by rw [hRR]; exact hk)) hS hlv hk' kk
end XV
theorem zok_f {v w : Int32} (h : zok v = some w) : fits .boolean (.int w) = true := by
  unfold zok at h
  split at h
  · rename_i hz
    cases h
    rcases hz with rfl | rfl <;> rfl
  · cases h
