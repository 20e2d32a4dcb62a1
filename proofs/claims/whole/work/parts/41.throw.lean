/-! METHODS THAT MAY THROW: what they need of the machine beside their world, their contract, their rows -/
def xNSE : String := "java/util/NoSuchElementException"
def xIAE : String := "java/lang/IllegalArgumentException"
def xSup : List String := ["java/lang/RuntimeException", "java/lang/Exception"]
def xNwP (w : Cond) : Bool := match w with
  | .castable .. => true
  | .declares .. => true
  | _ => false
def xNw : List Cond := lw_tbl.filter xNwP
theorem xNw_warm {s U : State} (hW : s.WarmedH U.vm) (h : ∀ w ∈ xNw, va_Nw w s) : ∀ w ∈ xNw, va_Nw w U := by
  intro w hw
  have h1 := h w hw
  have h2 := (List.mem_filter.mp hw).2
  cases w <;> first | exact va_Nw.warmC hW h1 | exact va_Nw.warmD hW h1 | cases h2
/-- the String constants: class, entry, text, the text's number -/
def xStr : List (String × Nat × String × Nat) := [(RX11, 168, "no such count", 0), (RX11, 192, "no such letter", 1), (RX11, 209, "no such place", 2), (RX11, 272, "no such step", 3), (RX11, 330, "1 to 10 times", 4), (RX11, 368, "0 to 8 letters", 5), (RX11, 404, "the tape has not so many bytes", 6), (RX11, 406, "no such rule", 7), (RX11, 408, "below 0", 8), (RX11, 410, "there is none such", 9), (RX11, 412, "nothing is told by this number", 10), (RX11, 414, "no such way", 11), (RX7, 49, "letters", 12), (RX7, 66, "rule", 13), (RX7, 71, "weigh", 14), (RX7, 76, "order", 15), (RX12, 246, "rule", 13), (RX12, 255, "order", 15), (RX12, 260, "weigh", 14), (RX12, 268, "letters", 12)]
def xLen : List Nat := [13, 14, 13, 12, 13, 14, 30, 12, 7, 18, 30, 11, 7, 4, 5, 5]
def xByt : List (List Int32) := [[110, 111, 32, 115, 117, 99, 104, 32, 99, 111, 117, 110, 116], [110, 111, 32, 115, 117, 99, 104, 32, 108, 101, 116, 116, 101, 114], [110, 111, 32, 115, 117, 99, 104, 32, 112, 108, 97, 99, 101], [110, 111, 32, 115, 117, 99, 104, 32, 115, 116, 101, 112], [49, 32, 116, 111, 32, 49, 48, 32, 116, 105, 109, 101, 115], [48, 32, 116, 111, 32, 56, 32, 108, 101, 116, 116, 101, 114, 115], [116, 104, 101, 32, 116, 97, 112, 101, 32, 104, 97, 115, 32, 110, 111, 116, 32, 115, 111, 32, 109, 97, 110, 121, 32, 98, 121, 116, 101, 115], [110, 111, 32, 115, 117, 99, 104, 32, 114, 117, 108, 101], [98, 101, 108, 111, 119, 32, 48], [116, 104, 101, 114, 101, 32, 105, 115, 32, 110, 111, 110, 101, 32, 115, 117, 99, 104], [110, 111, 116, 104, 105, 110, 103, 32, 105, 115, 32, 116, 111, 108, 100, 32, 98, 121, 32, 116, 104, 105, 115, 32, 110, 117, 109, 98, 101, 114], [110, 111, 32, 115, 117, 99, 104, 32, 119, 97, 121], [108, 101, 116, 116, 101, 114, 115], [114, 117, 108, 101], [119, 101, 105, 103, 104], [111, 114, 100, 101, 114]]
def xEnv (adK adV : Nat → Nat) (A : Nat → Prop) (U : State) : Prop :=
  vx_Zq Bundle.tN "UNASSIGNED_STACK" Bundle.steD A U U.heap ∧ vx_Zq Bundle.tN "SUPPRESSED_SENTINEL" Bundle.listD A U U.heap ∧ (∀ q ∈ xStr, vk_R q.1 q.2.1 q.2.2.1 (adK q.2.2.2) U) ∧ vk_S 16 xLen xByt adK adV A U U.heap ∧ (∀ w ∈ xNw, va_Nw w U) ∧ (va_Z "java/lang/String" "COMPACT_STRINGS" "Z" (.int 1) A U U.heap ∧ va_Zq "jdk/internal/util/Preconditions" "SIOOBE_FORMATTER" "Ljava/util/function/BiFunction;" A U U.heap) ∧ va_Nc xIAE xNSE U
theorem xEnv.keep {adK adV : Nat → Nat} {A : Nat → Prop} {s U : State} (h : xEnv adK adV A s) (hW : s.WarmedH U.vm) (hq : ∀ q : Nat, q < s.heap.size → ¬ A q → U.heap[q]? = s.heap[q]?) : xEnv adK adV A U := by
  obtain ⟨h1, h2, h3, h4, h5, h6, h7⟩ := h
  exact ⟨(h1.moved hW.alike).kept hq, (h2.moved hW.alike).kept hq, fun q hh => (h3 q hh).warm hW, (h4.moved hW.alike).kept hq, xNw_warm hW h5, ⟨(h6.1.moved hW.alike).kept hq, (h6.2.moved hW.alike).kept hq⟩, h7.moved hW.alike⟩
theorem xEnv.keepv {adK adV : Nat → Nat} {A : Nat → Prop} {s U : State} (h : xEnv adK adV A s) (hv : U.vm = s.vm) (hh : U.heap = s.heap) : xEnv adK adV A U := by
  have hal : s.vm.Alike U.vm := by rw [hv]; exact Vm.Alike.refl _
  have hq : ∀ q : Nat, q < s.heap.size → ¬ A q → U.heap[q]? = s.heap[q]? := fun q _ _ => by rw [hh]
  obtain ⟨h1, h2, h3, h4, h5, h6, h7⟩ := h
  refine ⟨(h1.moved hal).kept hq, (h2.moved hal).kept hq, fun q hh => (h3 q hh).same hv, (h4.moved hal).kept hq, fun w hw => ?_, ⟨(h6.1.moved hal).kept hq, (h6.2.moved hal).kept hq⟩, h7.moved hal⟩
  have hz := (List.mem_filter.mp hw).2
  have h8 := h5 w hw
  cases w <;> first | exact va_Nw.same rfl hv.symm h8 | cases hz
theorem Wd_kept {G : xG} {A : Nat → Prop} {σ : St} {H H1 : Heap} (h : Wd G A σ H) (hq : ∀ q : Nat, q < H.size → H1[q]? = H[q]?) : Wd G A σ H1 := by
  obtain ⟨ws, hP, hD, hw⟩ := h
  exact ⟨ws, hP.kept (fun k q hk => hq _ ((hP k q hk).lt)), hD, hw⟩
def xPreE (adK adV : Nat → Nat) (G : xG) (A : Nat → Prop) (σ : St) (U : State) : Prop := xPre G A σ U ∧ xEnv adK adV A U
def zQ (v : Option Value ⊕ String) (G : xG) (A : Nat → Prop) (σ : St) : Array Value → State → Outcome → State → Prop := fun _ st oc t => (∃ w, v = Sum.inl w ∧ oc = .returned w) ∧ Wd G A σ t.heap ∧ va_F A st t
def zX (v : Option Value ⊕ String) (G : xG) (A : Nat → Prop) (σ : St) : String → State → State → Prop := fun E st t => v = Sum.inr E ∧ Wd G A σ t.heap ∧ va_F A st t
/-- the contract of a method that returns (inl) or throws (inr, the exception's class) -/
def ConX (l : Launch) (y : MethodName) (ws : List Cond) (rm : Room) (mc ms : Nat) (as : List Value) (adK adV : Nat → Nat) (G : xG) (A : Nat → Prop) (σ : St) (v : Option Value ⊕ String) (σ' : St) : Prop := vx_Met l y ws rm (va_Pc as (xPreE adK adV G A σ)) (zQ v G A σ') (zX v G A σ') mc ms A
def zE (X : xX) (mc ms : Nat) (v : Option Value ⊕ String) (σ' : St) : Prop := xQ X = vx_MQ (xb X) (zQ v (xGd X) (xA X) σ') (zX v (xGd X) (xA X) σ') (xa X) (xs X) mc ms (xA X)
def xoI (r : Int32 ⊕ String) : Option Value ⊕ String := match r with
  | .inl x => .inl (some (.int x))
  | .inr E => .inr E
def xoV (r : Unit ⊕ String) : Option Value ⊕ String := match r with
  | .inl _ => .inl none
  | .inr E => .inr E
/-- what a frame that may throw has beside Ok -/
def OkE (X : xX) (adK adV : Nat → Nat) : Prop := (xl X).stackTraces = false ∧ (∀ x ∈ (xc X).exceptionTable.toList, False) ∧ xEnv adK adV (xA X) (xs X)
theorem z_start {l : Launch} (hst : l.stackTraces = false) {y : MethodName} {cc : ByteArray} {maxL : Nat} {ret : Option FieldType} {rm : Room} {mc ms : Nat} {as : List Value} {adK adV : Nat → Nat} {G : xG} {A : Nat → Prop} {σ σ' : St} {v : Option Value ⊕ String} (hy : plainName y.cls = true) (hlen : (lg_sl as).length ≤ maxL)
    (h : ∀ X : xX, xl X = l → xGd X = G → xA X = A → Ok X cc maxL y.cls rm ret → OkE X adK adV → zE X mc ms v σ' → Vz X (0, 0) σ 0 (lv_args 0 as) []) : ConX l y (xws y cc maxL ret) rm mc ms as adK adV G A σ v σ' := by
  refine vx_ofW (cc := cc) (maxL := maxL) (ret := ret) hy rfl ?_
  intro p e s m args below meth c s₁ B hml htab hv
  obtain ⟨rfl, ⟨hW, hK, hA⟩, hEv⟩ := hv
  have hts := atoms_spec (ws := xws y cc maxL ret) B.pre
  have hl := lv_entry as (n := maxL) hlen
  rw [lg_entry_eq]
  exact h (p, l, e, (headSpec (xws y cc maxL ret) rm).room, s, m, as.toArray, below, meth, c, maxL, A, G, vx_MQ below (zQ v G A σ') (zX v G A σ') as.toArray s mc ms A) rfl rfl rfl ⟨B.exec, B.bytes, ⟨hml, rfl⟩, findClass_of_methodNamed B.named, fun w hw => hts w (List.mem_cons_of_mem _ hw), ⟨B.notSynchronized, B.returns⟩, rfl, hK, hA⟩ ⟨hst, htab, hEv⟩ rfl s.heap [] _ hW va_S.rf hl
theorem x_blindE {as : List Value} {adK adV : Nat → Nat} {G : xG} {A : Nat → Prop} {σ : St} : FrameBlind (va_Pc as (xPreE adK adV G A σ)) := by
  intro a U g mk q
  obtain ⟨q0, ⟨qW, qK, qA⟩, hE⟩ := q
  exact ⟨q0, ⟨qW, va_K.moved (u := U) (U := U.calling g mk a) (Vm.Alike.refl U.vm) qK, qA⟩, hE.keepv rfl rfl⟩
section XZ
variable {X : xX} {adK adV : Nat → Nat} {mc ms : Nat} {k : Nat × Nat} {σ σ' : St} {pc : Nat} {lv : List (Nat × Value)} {st : List Value} {cc : ByteArray} {nL : Nat} {own : String} {rm : Room} {ret : Option FieldType}
theorem z_iret (C : Ok X cc nL own rm (some .int)) {v : Int32} (hE : zE X mc ms (.inl (some (.int v))) σ) (hk : k.1 ≤ mc ∧ k.2 ≤ ms) (d : decode cc pc = .ok (.ireturn, 1)) : Vz X k σ pc lv [.int v] := by
  intro H locs ls hW hS hlv
  rw [hE]
  exact W.widen hk.1 hk.2 (vx_ret (W.iret C.1 C.2.1 C.2.2.2.2.2.1.2 (fun t ht hm => ⟨⟨_, rfl, rfl⟩, by rw [ht]; exact hW, hS.F ht⟩) hS.2.2 d (hlocks := C.2.2.2.2.2.1.1)))
theorem z_zret (C : Ok X cc nL own rm (some .boolean)) {v : Int32} (hn : narrow .boolean (.int v) = .int v) (hE : zE X mc ms (.inl (some (.int v))) σ) (hk : k.1 ≤ mc ∧ k.2 ≤ ms) (d : decode cc pc = .ok (.ireturn, 1)) : Vz X k σ pc lv [.int v] := by
  intro H locs ls hW hS hlv
  rw [hE]
  exact W.widen hk.1 hk.2 (vx_ret (W.zret C.1 C.2.1 C.2.2.2.2.2.1.2 hn (fun t ht hm => ⟨⟨_, rfl, rfl⟩, by rw [ht]; exact hW, hS.F ht⟩) hS.2.2 d (hlocks := C.2.2.2.2.2.1.1)))
theorem z_vret (C : Ok X cc nL own rm none) (hE : zE X mc ms (.inl none) σ) (hk : k.1 ≤ mc ∧ k.2 ≤ ms) (d : decode cc pc = .ok (.return_, 1)) : Vz X k σ pc lv [] := by
  intro H locs ls hW hS hlv
  rw [hE]
  exact W.widen hk.1 hk.2 (vx_ret (W.vret C.1 C.2.1 C.2.2.2.2.2.1.2 (fun t ht hm => ⟨⟨_, rfl, rfl⟩, by rw [ht]; exact hW, hS.F ht⟩) hS.2.2 d (hlocks := C.2.2.2.2.2.1.1)))
theorem z_hat (C : Ok X cc nL own rm ret) (O : OkE X adK adV) {L : List Cond} (h : ∀ w ∈ L, w ∈ gt ∨ (w ∈ xNw ∧ w.onTables = true)) : ∀ w ∈ L, w.before (xa X) (xs X) = true := by
  intro w hw
  rcases h w hw with h | ⟨h, h2⟩
  · exact C.2.2.2.2.1 w h
  · exact va_Nw.use h2 (O.2.2.2.2.2.2.1 w h)
theorem z_throwS (C : Ok X cc nL own rm ret) (O : OkE X adK adV) {cls text : String} {ik is ic i : Nat} (hcl : Bundle.fit cls = true) (hk : Cond.classLink own ik cls ∈ gt) (hini : Cond.initialized cls ∈ gt) (hat : ∀ w ∈ vx_atS own ic cls xSup, w ∈ gt ∨ (w ∈ xNw ∧ w.onTables = true)) (hgood : ∀ w ∈ Cond.classLink own ik cls :: Cond.initialized cls :: vx_atS own ic cls xSup, vx_ot w = true) (hs : (own, is, text, i) ∈ xStr)
    (d0 : decode cc pc = .ok (.new ik, 3)) (d3 : decode cc (pc + 3) = .ok (.dup, 1)) (d4 : decode cc (pc + 4) = .ok (.ldc is, 2)) (d6 : decode cc (pc + 6) = .ok (.invokespecial ic, 3)) (d9 : decode cc (pc + 9) = .ok (.athrow, 1))
    (hR : 5 < rm.frames ∧ (st.map fun v => v.category).sum + 82 ≤ rm.locals) (hkc : k.1 + 1 ≤ rm.cells ∧ k.2 + 6 ≤ rm.slots) (hm : k.1 + 1 ≤ mc ∧ k.2 + 6 ≤ ms) (hE : zE X mc ms (.inr cls) σ) : Vz X k σ pc lv st := by
  intro H locs ls hW hS hlv
  have hts := C.2.2.2.2.1
  have hRR := C.2.2.2.2.2.2.1
  rw [hE]
  exact vx_throwS C.1 C.2.1 O.1 C.2.2.2.1 hcl (by decide) (hts _ hk) (hts _ hini) (O.2.2.2.2.1 _ hs) (z_hat C O hat) hgood O.2.2.1 O.2.2.2.1 hS (by rw [hlv.1, C.2.2.1.2, C.2.2.1.1]) d0 d3 d4 d6 d9 (fun x hx => (O.2.1 x hx).elim) (by rw [hRR]; exact hR.1) (by rw [hRR]; exact hR.2) (by rw [hRR]; exact hkc.1) (by rw [hRR]; exact hkc.2) C.2.2.2.2.2.1.1
    (fun t _ hz hq => ⟨rfl, Wd_kept hW hq, Nat.le_trans hS.1 hz, fun q h1 h2 => (hq q (Nat.lt_of_lt_of_le h1 hS.1)).trans (hS.2.1 q h1 h2)⟩) hS.2.2 hm.1 hm.2
theorem z_throwSW (C : Ok X cc nL own rm ret) (O : OkE X adK adV) {cls text : String} {ik is ic i : Nat} (hcl : Bundle.fit cls = true) (hk : Cond.classLink own ik cls ∈ gt) (hini : Cond.initialized cls ∈ gt) (hat : ∀ w ∈ vx_atS own ic cls xSup, w ∈ gt ∨ (w ∈ xNw ∧ w.onTables = true)) (hgood : ∀ w ∈ Cond.classLink own ik cls :: Cond.initialized cls :: vx_atS own ic cls xSup, vx_ot w = true) (hs : (own, is, text, i) ∈ xStr)
    (d0 : decode cc pc = .ok (.new ik, 3)) (d3 : decode cc (pc + 3) = .ok (.dup, 1)) (d4 : decode cc (pc + 4) = .ok (.ldc_w is, 3)) (d7 : decode cc (pc + 7) = .ok (.invokespecial ic, 3)) (d10 : decode cc (pc + 10) = .ok (.athrow, 1))
    (hR : 5 < rm.frames ∧ (st.map fun v => v.category).sum + 82 ≤ rm.locals) (hkc : k.1 + 1 ≤ rm.cells ∧ k.2 + 6 ≤ rm.slots) (hm : k.1 + 1 ≤ mc ∧ k.2 + 6 ≤ ms) (hE : zE X mc ms (.inr cls) σ) : Vz X k σ pc lv st := by
  intro H locs ls hW hS hlv
  have hts := C.2.2.2.2.1
  have hRR := C.2.2.2.2.2.2.1
  rw [hE]
  exact vx_throwSW C.1 C.2.1 O.1 C.2.2.2.1 hcl (by decide) (hts _ hk) (hts _ hini) (O.2.2.2.2.1 _ hs) (z_hat C O hat) hgood O.2.2.1 O.2.2.2.1 hS (by rw [hlv.1, C.2.2.1.2, C.2.2.1.1]) d0 d3 d4 d7 d10 (fun x hx => (O.2.1 x hx).elim) (by rw [hRR]; exact hR.1) (by rw [hRR]; exact hR.2) (by rw [hRR]; exact hkc.1) (by rw [hRR]; exact hkc.2) C.2.2.2.2.2.1.1
    (fun t _ hz hq => ⟨rfl, Wd_kept hW hq, Nat.le_trans hS.1 hz, fun q h1 h2 => (hq q (Nat.lt_of_lt_of_le h1 hS.1)).trans (hS.2.1 q h1 h2)⟩) hS.2.2 hm.1 hm.2
theorem x_preE (C : Ok X cc nL own rm ret) (hEv : xEnv adK adV (xA X) (xs X)) {H : Heap} {locs : List Loc} {as : List Value} (hW : Wd (xGd X) (xA X) σ H) (hS : va_S (xA X) (xs X).heap H locs) : ∀ U : State, U.heap = H → (xs X).WarmedH U.vm → va_Pc as (xPreE adK adV (xGd X) (xA X) σ) as.toArray U := by
  intro U hU hm
  obtain ⟨h1, h2⟩ := x_pre (as := as) C hW hS U hU hm
  exact ⟨h1, h2, hEv.keep hm (fun q a b => by rw [hU]; exact hS.2.1 q a b)⟩
/-- behind a call that may have thrown, where it returned -/
theorem z_runn {mc' ms' : Nat} {H : Heap} {locs : List Loc} {ls : Array Slot} {st0 : List Value} {w : Option Value} {a : Array Value} (hr : vx_Run (xp X) (xl X) (xe X) (xR X) (xs X) (xm X) (xa X) (xb X) (xh X) (xc X) H locs k.1 k.2 mc' ms' (F0 (xm X) pc ls st0) st (zQ (.inl w) (xGd X) (xA X) σ' a) (zX (.inl w) (xGd X) (xA X) σ') (xA X))
    (hS : va_S (xA X) (xs X).heap H locs) (hlv : lv_has ls (xn X) lv) (kk : Vz X (k.1 + mc', k.2 + ms') σ' (pc + 3) lv (w.toList ++ st)) : W (xp X) (xl X) (xe X) (xR X) (xs X) (xm X) (xa X) (xb X) (xh X) (xc X) H locs k.1 k.2 (xQ X) (F0 (xm X) pc ls st0) := by
  intro T hT XS
  rcases hr T hT XS with ⟨v, st₀, t, T', L, h0, X', hL, e1, e2, ⟨⟨w', hw', hv⟩, hWd, hF⟩, stp⟩ | ⟨q, st₀, t, T', L, E, ce, h0, X', hL, e1, e2, ⟨hv, -, -⟩, -⟩
  · cases hw'
    cases hv
    obtain ⟨k1, k2, k3⟩ := vx_keep h0 e1 hS (fun _ _ h => h) (fun _ h => h) hL hF
    obtain ⟨t2, a1, b1⟩ := kk T'.heap (locs ++ L) ls (by rw [e1]; exact hWd) k3 hlv T' rfl X'
    exact ⟨t2, stp t2 a1, b1⟩
  · cases hv
/-- behind a call that threw, in a method that catches nothing -/
theorem z_runt (C : Ok X cc nL own rm ret) (O : OkE X adK adV) {mc' ms' : Nat} {H : Heap} {locs : List Loc} {ls : Array Slot} {st0 : List Value} {E : String} {a : Array Value} (hr : vx_Run (xp X) (xl X) (xe X) (xR X) (xs X) (xm X) (xa X) (xb X) (xh X) (xc X) H locs k.1 k.2 mc' ms' (F0 (xm X) pc ls st0) st (zQ (.inr E) (xGd X) (xA X) σ' a) (zX (.inr E) (xGd X) (xA X) σ') (xA X))
    (hS : va_S (xA X) (xs X).heap H locs) (hm : k.1 + mc' ≤ mc ∧ k.2 + ms' ≤ ms) (hE : zE X mc ms (.inr E) σ') : W (xp X) (xl X) (xe X) (xR X) (xs X) (xm X) (xa X) (xb X) (xh X) (xc X) H locs k.1 k.2 (xQ X) (F0 (xm X) pc ls st0) := by
  intro T hT XS
  rcases hr T hT XS with ⟨v, st₀, t, T', L, h0, X', hL, e1, e2, ⟨⟨w', hw', hv⟩, hWd, hF⟩, stp⟩ | ⟨q, st₀, t, T', L, E', ce, h0, X', hL, e1, e2, ⟨hv, hWd, hF⟩, hce, hcv, hcl, stp⟩
  · cases hw'
  · cases hv
    obtain ⟨k1, k2, k3⟩ := vx_keep h0 e1 hS (fun _ _ h => h) (fun _ h => h) hL hF
    rw [hE]
    obtain ⟨t2, a1, b1⟩ := vx_out (p := xp X) (l := xl X) (e := xe X) (R := xR X) (args := xa X) (below := xb X) (pc := pc) (ls := ls) (rest := st) (Qc := zQ (.inr E) (xGd X) (xA X) σ') (XC := zX (.inr E) (xGd X) (xA X) σ') (mc := mc) (ms := ms) (free := xA X) (cells := k.1 + mc') (slots := k.2 + ms') (fun x hx => (O.2.1 x hx).elim) C.2.2.2.2.2.1.1 (by rw [e1]; exact hce) hcv hcl
      (fun t' ht' hm' => ⟨rfl, by rw [ht', e1]; exact hWd, k3.F ht'⟩) k3.2.2 hm.1 hm.2 T' rfl X'
    exact ⟨t2, stp.trans a1, b1⟩
theorem z_cSn (C : Ok X cc nL own rm ret) (O : xEnv adK adV (xA X) (xs X)) {idx n na mc' ms' : Nat} {y : MethodName} {b : ByteArray} {r : Option FieldType} {rm' : Room} {as stk : List Value} {w : Option Value} (d : decode cc pc = .ok (.invokestatic idx, 3)) (pc' : Nat) (hp : pc + 3 = pc') (hM : ConX (xl X) y (xws y b n r) rm' mc' ms' as adK adV (xGd X) (xA X) σ (.inl w) σ') (hy : xCal y b n r na) (hst : Cond.static y ∈ gt) (hl : Cond.methodLink own idx y ∈ gt)
    (hrm : rm'.cells = mc' ∧ rm'.slots = ms') (hR : rm'.frames + 1 ≤ rm.frames ∧ 8 + (n + 11) + rm'.locals ≤ rm.locals) (hk : k.1 + mc' ≤ rm.cells ∧ k.2 + ms' ≤ rm.slots) (hna : as.length = na) (hstk : stk = as.reverse ++ st) (hcat : (st.map fun v => v.category).sum ≤ 8) (k' : Nat × Nat) (hk' : (k.1 + mc', k.2 + ms') = k') (kk : Vz X k' σ' pc' lv (w.toList ++ st)) : Vz X k σ pc lv stk := by
  subst hp; subst hstk; subst hk'
  intro H locs ls hW hS hlv
  have hts := C.2.2.2.2.1
  have hRR := C.2.2.2.2.2.2.1
  exact z_runn (vx_runS (As := as) (rest := st) ⟨C.1, C.2.1, C.2.2.1.1, C.2.2.2.1, hts⟩ hM ⟨callB_of na hts (good_xws hy.1) rfl hrm.1 hrm.2 (hts _ hy.2.1) (hts _ hl) hy.2.2 (by rw [hRR]; exact hR), hts _ hst⟩ ⟨x_blindE, x_preE C O hW hS⟩ rfl hna (by show ls.size = _; rw [hlv.1, C.2.2.1.2]) rfl (lv_room hcat) d (by rw [hRR]; exact hk)) hS hlv kk
theorem z_cSt (C : Ok X cc nL own rm ret) (O : OkE X adK adV) {idx n na mc' ms' : Nat} {y : MethodName} {b : ByteArray} {r : Option FieldType} {rm' : Room} {as stk : List Value} {E : String} (d : decode cc pc = .ok (.invokestatic idx, 3)) (hM : ConX (xl X) y (xws y b n r) rm' mc' ms' as adK adV (xGd X) (xA X) σ (.inr E) σ') (hy : xCal y b n r na) (hst : Cond.static y ∈ gt) (hl : Cond.methodLink own idx y ∈ gt)
    (hrm : rm'.cells = mc' ∧ rm'.slots = ms') (hR : rm'.frames + 1 ≤ rm.frames ∧ 8 + (n + 11) + rm'.locals ≤ rm.locals) (hk : k.1 + mc' ≤ rm.cells ∧ k.2 + ms' ≤ rm.slots) (hna : as.length = na) (hstk : stk = as.reverse ++ st) (hcat : (st.map fun v => v.category).sum ≤ 8) (hm : k.1 + mc' ≤ mc ∧ k.2 + ms' ≤ ms) (hE : zE X mc ms (.inr E) σ') : Vz X k σ pc lv stk := by
  subst hstk
  intro H locs ls hW hS hlv
  have hts := C.2.2.2.2.1
  have hRR := C.2.2.2.2.2.2.1
  exact z_runt C O (vx_runS (As := as) (rest := st) ⟨C.1, C.2.1, C.2.2.1.1, C.2.2.2.1, hts⟩ hM ⟨callB_of na hts (good_xws hy.1) rfl hrm.1 hrm.2 (hts _ hy.2.1) (hts _ hl) hy.2.2 (by rw [hRR]; exact hR), hts _ hst⟩ ⟨x_blindE, x_preE C O.2.2 hW hS⟩ rfl hna (by show ls.size = _; rw [hlv.1, C.2.2.1.2]) rfl (lv_room hcat) d (by rw [hRR]; exact hk)) hS hm hE
theorem z_cVn (C : Ok X cc nL own rm ret) (O : xEnv adK adV (xA X) (xs X)) {idx n na q ci N mc' ms' : Nat} {y : MethodName} {b : ByteArray} {r : Option FieldType} {rm' : Room} {as stk : List Value} {w : Option Value} {Cn : String} {T : u_T} {u : Unit} (d : decode cc pc = .ok (.invokevirtual idx, 3)) (pc' : Nat) (hp : pc + 3 = pc') (ho : isO σ q ci = some u) (hci : x_cl[ci]? = some (Cn, T, N)) (hCn : Cn = y.cls) (hM : ConX (xl X) y (xws y b n r) rm' mc' ms' (.ref q :: as) adK adV (xGd X) (xA X) σ (.inl w) σ') (hy : xCal y b n r na) (hst : Cond.instanceMethod y ∈ gt ∧ Cond.selects y.cls y y ∈ gt) (hl : Cond.methodLink own idx y ∈ gt)
    (hrm : rm'.cells = mc' ∧ rm'.slots = ms') (hR : rm'.frames + 1 ≤ rm.frames ∧ 8 + (n + 11) + rm'.locals ≤ rm.locals) (hk : k.1 + mc' ≤ rm.cells ∧ k.2 + ms' ≤ rm.slots) (hna : as.length = na) (hstk : stk = as.reverse ++ .ref q :: st) (hcat : (st.map fun v => v.category).sum ≤ 8) (k' : Nat × Nat) (hk' : (k.1 + mc', k.2 + ms') = k') (kk : Vz X k' σ' pc' lv (w.toList ++ st)) : Vz X k σ pc lv stk := by
  subst hp; subst hstk; subst hCn; subst hk'
  intro H locs ls hW hS hlv
  have hts := C.2.2.2.2.1
  have hRR := C.2.2.2.2.2.2.1
  obtain ⟨fs, h1⟩ := isO_some ho
  obtain ⟨ws, hP, hD, hw⟩ := id hW
  obtain ⟨i0, hi⟩ := hw q _ h1
  exact z_runn (vx_runV (C := y.cls) (As := as) (rest := st) ⟨C.1, C.2.1, C.2.2.1.1, C.2.2.2.1, hts⟩ hM ⟨callB_of na hts (good_xws hy.1) rfl hrm.1 hrm.2 (hts _ hy.2.1) (hts _ hl) hy.2.2 (by rw [hRR]; exact hR), hts _ hst.1, hts _ hst.2⟩ ⟨x_blindE, va_recv C.2.2.2.2.2.2.2.1 hP hci hi, x_preE C O hW hS⟩ rfl hna (by show ls.size = _; rw [hlv.1, C.2.2.1.2]) rfl (lv_room hcat) d (by rw [hRR]; exact hk)) hS hlv kk
theorem z_cVt (C : Ok X cc nL own rm ret) (O : OkE X adK adV) {idx n na q ci N mc' ms' : Nat} {y : MethodName} {b : ByteArray} {r : Option FieldType} {rm' : Room} {as stk : List Value} {E : String} {Cn : String} {T : u_T} {u : Unit} (d : decode cc pc = .ok (.invokevirtual idx, 3)) (ho : isO σ q ci = some u) (hci : x_cl[ci]? = some (Cn, T, N)) (hCn : Cn = y.cls) (hM : ConX (xl X) y (xws y b n r) rm' mc' ms' (.ref q :: as) adK adV (xGd X) (xA X) σ (.inr E) σ') (hy : xCal y b n r na) (hst : Cond.instanceMethod y ∈ gt ∧ Cond.selects y.cls y y ∈ gt) (hl : Cond.methodLink own idx y ∈ gt)
    (hrm : rm'.cells = mc' ∧ rm'.slots = ms') (hR : rm'.frames + 1 ≤ rm.frames ∧ 8 + (n + 11) + rm'.locals ≤ rm.locals) (hk : k.1 + mc' ≤ rm.cells ∧ k.2 + ms' ≤ rm.slots) (hna : as.length = na) (hstk : stk = as.reverse ++ .ref q :: st) (hcat : (st.map fun v => v.category).sum ≤ 8) (hm : k.1 + mc' ≤ mc ∧ k.2 + ms' ≤ ms) (hE : zE X mc ms (.inr E) σ') : Vz X k σ pc lv stk := by
  subst hstk; subst hCn
  intro H locs ls hW hS hlv
  have hts := C.2.2.2.2.1
  have hRR := C.2.2.2.2.2.2.1
  obtain ⟨fs, h1⟩ := isO_some ho
  obtain ⟨ws, hP, hD, hw⟩ := id hW
  obtain ⟨i0, hi⟩ := hw q _ h1
  exact z_runt C O (vx_runV (C := y.cls) (As := as) (rest := st) ⟨C.1, C.2.1, C.2.2.1.1, C.2.2.2.1, hts⟩ hM ⟨callB_of na hts (good_xws hy.1) rfl hrm.1 hrm.2 (hts _ hy.2.1) (hts _ hl) hy.2.2 (by rw [hRR]; exact hR), hts _ hst.1, hts _ hst.2⟩ ⟨x_blindE, va_recv C.2.2.2.2.2.2.2.1 hP hci hi, x_preE C O.2.2 hW hS⟩ rfl hna (by show ls.size = _; rw [hlv.1, C.2.2.1.2]) rfl (lv_room hcat) d (by rw [hRR]; exact hk)) hS hm hE
end XZ
