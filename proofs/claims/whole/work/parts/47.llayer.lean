/-! METHODS THAT CATCH (the law's own): contract, start, return, a call whose throw is caught, a call of them -/
def xwsW (y : MethodName) (b : ByteArray) (n : Nat) (r : Option FieldType) (hh : List (Nat × Nat × Nat × Nat)) : List Cond := .codeWith y b n r hh :: gt
def eQ (v : Option Value) (G : xG) (A : Nat → Prop) (σ : St) : Array Value → State → Outcome → State → Prop := fun _ st oc t => oc = .returned v ∧ Wd G A σ t.heap ∧ va_F A st t
def ConE (l : Launch) (y : MethodName) (ws : List Cond) (rm : Room) (mc ms : Nat) (as : List Value) (adK adV : Nat → Nat) (G : xG) (A : Nat → Prop) (σ : St) (v : Option Value) (σ' : St) : Prop := Met l y ws rm (va_Pc as (xPreE adK adV G A σ)) (eQ v G A σ') mc ms A
def eE (X : xX) (mc ms : Nat) (v : Option Value) (σ' : St) : Prop := xQ X = MQ (xb X) (eQ v (xGd X) (xA X) σ') (xa X) (xs X) mc ms (xA X)
def OkL (X : xX) (adK adV : Nat → Nat) (hh : List (Nat × Nat × Nat × Nat)) : Prop := (xl X).stackTraces = false ∧ (xc X).exceptionTable.toList = tableOf hh ∧ xEnv adK adV (xA X) (xs X)
theorem e_start {l : Launch} (hst : l.stackTraces = false) {y : MethodName} {cc : ByteArray} {maxL : Nat} {ret : Option FieldType} {hh : List (Nat × Nat × Nat × Nat)} {rm : Room} {mc ms : Nat} {as : List Value} {adK adV : Nat → Nat} {G : xG} {A : Nat → Prop} {σ σ' : St} {v : Option Value} (hy : plainName y.cls = true) (hlen : (lg_sl as).length ≤ maxL)
    (h : ∀ X : xX, xl X = l → xGd X = G → xA X = A → Ok X cc maxL y.cls rm ret → OkL X adK adV hh → eE X mc ms v σ' → Vz X (0, 0) σ 0 (lv_args 0 as) []) : ConE l y (xwsW y cc maxL ret hh) rm mc ms as adK adV G A σ v σ' := by
  refine va_MetW (cc := cc) (maxL := maxL) (ret := ret) (hh := hh) hy rfl ?_
  intro p e s m args below meth c s₁ B hml hv
  obtain ⟨rfl, ⟨hW, hK, hA⟩, hEv⟩ := hv
  have hts := atoms_spec (ws := xwsW y cc maxL ret hh) B.pre
  have htab := vx_table (x := y) B (hts _ List.mem_cons_self)
  have hl := lv_entry as (n := maxL) hlen
  rw [lg_entry_eq]
  exact h (p, l, e, (headSpec (xwsW y cc maxL ret hh) rm).room, s, m, as.toArray, below, meth, c, maxL, A, G, MQ below (eQ v G A σ') as.toArray s mc ms A) rfl rfl rfl ⟨B.exec, B.bytes, ⟨hml, rfl⟩, findClass_of_methodNamed B.named, fun w hw => hts w (List.mem_cons_of_mem _ hw), ⟨B.notSynchronized, B.returns⟩, rfl, hK, hA⟩ ⟨hst, htab, hEv⟩ rfl s.heap [] _ hW va_S.rf hl
section XZ
variable {X : xX} {adK adV : Nat → Nat} {mc ms : Nat} {k : Nat × Nat} {σ σ' : St} {pc : Nat} {lv : List (Nat × Value)} {st : List Value} {cc : ByteArray} {nL : Nat} {own : String} {rm : Room} {ret : Option FieldType}
theorem e_iret (C : Ok X cc nL own rm (some .int)) {v : Int32} (hE : eE X mc ms (some (.int v)) σ) (hk : k.1 ≤ mc ∧ k.2 ≤ ms) (d : decode cc pc = .ok (.ireturn, 1)) : Vz X k σ pc lv [.int v] := by
  intro H locs ls hW hS hlv
  rw [hE]
  exact W.widen hk.1 hk.2 (W.iret C.1 C.2.1 C.2.2.2.2.2.1.2 (fun t ht hm => ⟨rfl, by rw [ht]; exact hW, hS.F ht⟩) hS.2.2 d (hlocks := C.2.2.2.2.2.1.1))
/-- behind a call that threw E, caught here -/
theorem e_runc (C : Ok X cc nL own rm ret) {mc' ms' : Nat} {H : Heap} {locs : List Loc} {ls : Array Slot} {st0 : List Value} {E : String} {a : Array Value} (hr : vx_Run (xp X) (xl X) (xe X) (xR X) (xs X) (xm X) (xa X) (xb X) (xh X) (xc X) H locs k.1 k.2 mc' ms' (F0 (xm X) pc ls st0) st (zQ (.inr E) (xGd X) (xA X) σ' a) (zX (.inr E) (xGd X) (xA X) σ') (xA X))
    (hS : va_S (xA X) (xs X).heap H locs) (hlv : lv_has ls (xn X) lv) (pre : List ExceptionTableEntry) (x : ExceptionTableEntry) (suf : List ExceptionTableEntry) (hsplit : (xc X).exceptionTable.toList = pre ++ x :: suf)
    (hpass : ∀ z ∈ pre, covers z pc = false ∨ (z.catchType ≠ 0 ∧ ∃ nm : String, (Cond.classLink own z.catchType nm).before (xa X) (xs X) = true ∧ va_Nc E nm (xs X))) (hx : covers x pc = true) (h0 : x.catchType ≠ 0)
    (hlink : (Cond.classLink own x.catchType E).before (xa X) (xs X) = true) (hcast : (Cond.castable E E).before (xa X) (xs X) = true) (kk : ∀ q, Vz X (k.1 + mc', k.2 + ms') σ' x.handlerPc lv [.ref q]) : W (xp X) (xl X) (xe X) (xR X) (xs X) (xm X) (xa X) (xb X) (xh X) (xc X) H locs k.1 k.2 (xQ X) (F0 (xm X) pc ls st0) := by
  intro T hT XS
  rcases hr T hT XS with ⟨v, st₀, t, T', L, h0, X', hL, e1, e2, ⟨⟨w', hw', hv⟩, hWd, hF⟩, stp⟩ | ⟨q, st₀, t, T', L, E', ce, h0', X', hL, e1, e2, ⟨hv, hWd, hF⟩, hce, hcv, hcl, stp⟩
  · cases hw'
  · cases hv
    obtain ⟨k1, k2, k3⟩ := vx_keep h0' e1 hS (fun _ _ h => h) (fun _ h => h) hL hF
    obtain ⟨t2, a1, b1⟩ := vx_catch (p := xp X) (l := xl X) (e := xe X) (R := xR X) (args := xa X) (below := xb X) (Q := xQ X) (cells := k.1 + mc') (slots := k.2 + ms') (pc := pc) (ls := ls) (rest := st) C.2.2.2.1 pre x suf hsplit hpass hx h0 hlink hcast (by rw [e1]; exact hce) hcv hcl
      (kk q T'.heap (locs ++ L) ls (by rw [e1]; exact hWd) k3 hlv) T' rfl X'
    exact ⟨t2, stp.trans a1, b1⟩
theorem e_cVc (C : Ok X cc nL own rm ret) (O : xEnv adK adV (xA X) (xs X)) {idx n na q ci N mc' ms' : Nat} {y : MethodName} {b : ByteArray} {r : Option FieldType} {rm' : Room} {as stk : List Value} {E : String} {Cn : String} {T : u_T} {u : Unit} (d : decode cc pc = .ok (.invokevirtual idx, 3)) (ho : isO σ q ci = some u) (hci : x_cl[ci]? = some (Cn, T, N)) (hCn : Cn = y.cls) (hM : ConX (xl X) y (xws y b n r) rm' mc' ms' (.ref q :: as) adK adV (xGd X) (xA X) σ (.inr E) σ') (hy : xCal y b n r na) (hst : Cond.instanceMethod y ∈ gt ∧ Cond.selects y.cls y y ∈ gt) (hl : Cond.methodLink own idx y ∈ gt)
    (hrm : rm'.cells = mc' ∧ rm'.slots = ms') (hR : rm'.frames + 1 ≤ rm.frames ∧ 8 + (n + 11) + rm'.locals ≤ rm.locals) (hk : k.1 + mc' ≤ rm.cells ∧ k.2 + ms' ≤ rm.slots) (hna : as.length = na) (hstk : stk = as.reverse ++ .ref q :: st) (hcat : (st.map fun v => v.category).sum ≤ 8)
    (pre : List ExceptionTableEntry) (x : ExceptionTableEntry) (suf : List ExceptionTableEntry) (hsplit : (xc X).exceptionTable.toList = pre ++ x :: suf)
    (hpass : ∀ z ∈ pre, covers z pc = false ∨ (z.catchType ≠ 0 ∧ ∃ nm : String, (Cond.classLink own z.catchType nm).before (xa X) (xs X) = true ∧ va_Nc E nm (xs X))) (hx : covers x pc = true) (h0 : x.catchType ≠ 0)
    (hlink : Cond.classLink own x.catchType E ∈ gt) (hcast : Cond.castable E E ∈ xNw) (hpc : Nat) (hhp : x.handlerPc = hpc) (k' : Nat × Nat) (hk' : (k.1 + mc', k.2 + ms') = k') (kk : ∀ q, Vz X k' σ' hpc lv [.ref q]) : Vz X k σ pc lv stk := by
  subst hstk; subst hCn; subst hk'; subst hhp
  intro H locs ls hW hS hlv
  have hts := C.2.2.2.2.1
  have hRR := C.2.2.2.2.2.2.1
  obtain ⟨fs, h1⟩ := isO_some ho
  obtain ⟨ws, hP, hD, hw⟩ := id hW
  obtain ⟨i0, hi⟩ := hw q _ h1
  exact e_runc C (vx_runV (C := y.cls) (As := as) (rest := st) ⟨C.1, C.2.1, C.2.2.1.1, C.2.2.2.1, hts⟩ hM ⟨callB_of na hts (good_xws hy.1) rfl hrm.1 hrm.2 (hts _ hy.2.1) (hts _ hl) hy.2.2 (by rw [hRR]; exact hR), hts _ hst.1, hts _ hst.2⟩ ⟨x_blindE, va_recv C.2.2.2.2.2.2.2.1 hP hci hi, x_preE C O hW hS⟩ rfl hna (by show ls.size = _; rw [hlv.1, C.2.2.1.2]) rfl (lv_room hcat) d (by rw [hRR]; exact hk)) hS hlv pre x suf hsplit hpass hx h0 (hts _ hlink) (va_Nw.use rfl (O.2.2.2.2.1 _ hcast)) kk
/-- a call of a method that catches -/
theorem e_run {mc' ms' : Nat} {H : Heap} {locs : List Loc} {ls : Array Slot} {st0 : List Value} {v : Option Value} {a : Array Value} (hr : va_Run (xp X) (xl X) (xe X) (xR X) (xs X) (xm X) (xa X) (xb X) (xh X) (xc X) H locs k.1 k.2 mc' ms' (F0 (xm X) pc ls st0) st (eQ v (xGd X) (xA X) σ' a) (xA X))
    (hS : va_S (xA X) (xs X).heap H locs) (hlv : lv_has ls (xn X) lv) (kk : Vz X (k.1 + mc', k.2 + ms') σ' (pc + 3) lv (v.toList ++ st)) : W (xp X) (xl X) (xe X) (xR X) (xs X) (xm X) (xa X) (xb X) (xh X) (xc X) H locs k.1 k.2 (xQ X) (F0 (xm X) pc ls st0) := by
  intro T hT XS
  obtain ⟨v', st₀, t, T', L, h0, X', hL, e1, e2, ⟨hv, hWd, hF⟩, stp⟩ := hr T hT XS
  cases hv
  obtain ⟨k1, k2, k3⟩ := vx_keep h0 e1 hS (fun _ _ h => h) (fun _ h => h) hL hF
  obtain ⟨t2, a1, b1⟩ := kk T'.heap (locs ++ L) ls (by rw [e1]; exact hWd) k3 hlv T' rfl X'
  exact ⟨t2, stp t2 a1, b1⟩
def xCalW (y : MethodName) (b : ByteArray) (n : Nat) (r : Option FieldType) (hh : List (Nat × Nat × Nat × Nat)) (na : Nat) : Prop :=
  Cond.codeWith y b n r hh ∈ gt ∧ Cond.initialized y.cls ∈ gt ∧ Cond.static y ∈ gt ∧ (y.cls ≠ "java/lang/invoke/MethodHandle" ∧ y.cls ≠ "java/lang/invoke/VarHandle" ∧ (parseMethodDescriptor y.desc).map (fun d => d.parameters.length) = some na)
theorem good_xwsW {y : MethodName} {b : ByteArray} {n : Nat} {r : Option FieldType} {hh : List (Nat × Nat × Nat × Nat)} (h : Cond.codeWith y b n r hh ∈ gt) : GoodIn gt (xwsW y b n r hh) := by
  intro w hw
  rcases List.mem_cons.mp hw with rfl | hw
  · exact ⟨h, gt_good h⟩
  · exact ⟨hw, gt_good hw⟩
theorem e_cS (C : Ok X cc nL own rm ret) (O : xEnv adK adV (xA X) (xs X)) {idx n na mc' ms' : Nat} {y : MethodName} {b : ByteArray} {r : Option FieldType} {hh : List (Nat × Nat × Nat × Nat)} {rm' : Room} {as stk : List Value} {v : Int32} (d : decode cc pc = .ok (.invokestatic idx, 3)) (pc' : Nat) (hp : pc + 3 = pc') (hM : ConE (xl X) y (xwsW y b n r hh) rm' mc' ms' as adK adV (xGd X) (xA X) σ (some (.int v)) σ') (hy : xCalW y b n r hh na) (hl : Cond.methodLink own idx y ∈ gt)
    (hrm : rm'.cells = mc' ∧ rm'.slots = ms') (hR : rm'.frames + 1 ≤ rm.frames ∧ 8 + (n + 11) + rm'.locals ≤ rm.locals) (hk : k.1 + mc' ≤ rm.cells ∧ k.2 + ms' ≤ rm.slots) (hna : as.length = na) (hstk : stk = as.reverse ++ st) (hcat : (st.map fun v => v.category).sum ≤ 8) (kk : Vz X (k.1 + mc', k.2 + ms') σ' pc' lv (.int v :: st)) : Vz X k σ pc lv stk := by
  subst hp; subst hstk
  intro H locs ls hW hS hlv
  have hts := C.2.2.2.2.1
  have hRR := C.2.2.2.2.2.2.1
  have cw : vx_CSW (xR X) (xs X) (xa X) own idx y b n r hh (xwsW y b n r hh) rm' mc' ms' na := by
    refine ⟨⟨hrm.1, hrm.2, by rw [hRR]; exact hR.1, by rw [hRR]; exact hR.2, pay_in hts (good_xwsW hy.1), List.mem_cons_self⟩, hts _ hy.1, hts _ hy.2.1, ⟨hy.2.2.2.1, hy.2.2.2.2.1⟩, fun sig h => ?_, hts _ hl, hts _ hy.2.2.1⟩
    have h2 := hy.2.2.2.2.2
    rw [h] at h2
    exact (Option.some.inj h2).symm
  exact e_run (vx_runSW (As := as) (rest := st) ⟨C.1, C.2.1, C.2.2.1.1, C.2.2.2.1, hts⟩ hM cw ⟨x_blindE, x_preE C O hW hS⟩ rfl hna (by show ls.size = _; rw [hlv.1, C.2.2.1.2]) rfl (lv_room hcat) d (by rw [hRR]; exact hk)) hS hlv kk
end XZ
