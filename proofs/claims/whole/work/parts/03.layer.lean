/-! THE LAYER: an abstract heap is a function from addresses to things; a frame's walk is 'V'; each instruction is a row of V. -/
def gt : List Cond := lw_tbl.filter goodWord
theorem gt_of {w : Cond} (i : Nat) (h : lw_tbl[i]? = some w) (g : goodWord w = true) : w ∈ gt := List.mem_filter.mpr ⟨List.mem_of_getElem? h, g⟩
theorem gt_good {w : Cond} (h : w ∈ gt) : (w.onTables && w.keeps) = true ∨ ∃ ty, w = .arrayClass ty := good_of_word (List.mem_filter.mp h).2
abbrev xE : Type := (Nat × vp_A) ⊕ (Nat × List Value)
abbrev St : Type := Nat → Option xE
abbrev xG : Type := (Nat → ClassId) × (Nat → Nat → Nat) × (Nat → ClassId)
def x_e (G : xG) (e : xE) : va_E := match e with
  | .inl a => .inl (G.2.2 a.1, a.2)
  | .inr o => .inr o
abbrev x_D (G : xG) : va_G := (G.1, G.2.1)
abbrev x_cl : List vw_C := [(RX0, TX0, 3), (RX1, TX1, 6), (RX2, TX2, 5), (RX3, TX3, 17), (RX4, TX4, 4), (RX5, TX5, 7), (RX6, TX6, 10), (RX7, TX7, 6), (RX8, TX8, 9), (RX9, TX9, 5), (RX11, TX11, 20), (RX12, TX12, 58)]
abbrev x_tys (G : xG) : List (ClassId × FieldType) := [(G.2.2 0, .int), (G.2.2 1, .long), (G.2.2 2, .byte), (G.2.2 3, .object RX2)]
def Wd (G : xG) (A : Nat → Prop) (σ : St) (H : Heap) : Prop := ∃ ws : va_W, va_P (x_D G) x_cl ws H ∧ va_D A ws ∧ ∀ (q : Nat) (e : xE), σ q = some e → ∃ i : Nat, ws[i]? = some (q, x_e G e)
def xu (σ : St) (q : Nat) (e : xE) : St := fun j => if j = q then some e else σ j
theorem Wd_set {G : xG} {A : Nat → Prop} {σ : St} {H1 : Heap} {ws : va_W} {i q : Nat} {e e' : xE} (hw : ∀ (q : Nat) (e : xE), σ q = some e → ∃ i : Nat, ws[i]? = some (q, x_e G e)) (hD0 : va_D A ws) (hi : ws[i]? = some (q, x_e G e))
    (hP : va_P (x_D G) x_cl (ws.set i (q, x_e G e')) H1) (hD : va_D A (ws.set i (q, x_e G e'))) : Wd G A (xu σ q e') H1 := by
  refine ⟨_, hP, hD, fun q2 e2 h2 => ?_⟩
  have hl := (List.getElem?_eq_some_iff.mp hi).1
  unfold xu at h2
  by_cases hq : q2 = q
  · subst hq
    rw [if_pos rfl] at h2
    cases h2
    exact ⟨i, List.getElem?_set_self hl⟩
  · rw [if_neg hq] at h2
    obtain ⟨j, hj⟩ := hw q2 e2 h2
    refine ⟨j, ?_⟩
    rw [List.getElem?_set_ne (fun hij => hq ?_)]
    · exact hj
    · subst hij
      rw [hi] at hj
      exact (congrArg Prod.fst (Option.some.inj hj)).symm
abbrev xX : Type := Program × Launch × Env × Room × State × MethodId × Array Value × List Frame × Method × Code × Nat × (Nat → Prop) × xG × (State → Prop)
abbrev xp (X : xX) := X.1
abbrev xl (X : xX) := X.2.1
abbrev xe (X : xX) := X.2.2.1
abbrev xR (X : xX) := X.2.2.2.1
abbrev xs (X : xX) := X.2.2.2.2.1
abbrev xm (X : xX) := X.2.2.2.2.2.1
abbrev xa (X : xX) := X.2.2.2.2.2.2.1
abbrev xb (X : xX) := X.2.2.2.2.2.2.2.1
abbrev xh (X : xX) := X.2.2.2.2.2.2.2.2.1
abbrev xc (X : xX) := X.2.2.2.2.2.2.2.2.2.1
abbrev xn (X : xX) := X.2.2.2.2.2.2.2.2.2.2.1
abbrev xA (X : xX) := X.2.2.2.2.2.2.2.2.2.2.2.1
abbrev xGd (X : xX) := X.2.2.2.2.2.2.2.2.2.2.2.2.1
abbrev xQ (X : xX) := X.2.2.2.2.2.2.2.2.2.2.2.2.2
def V (X : xX) (k : Nat × Nat) (σ : St) (pc : Nat) (lv : List (Nat × Value)) (st : List Value) : Prop :=
  ∀ (H : Heap) (locs : List Loc) (ls : Array Slot), H.size = (xs X).heap.size + k.1 → Wd (xGd X) (xA X) σ H → va_S (xA X) (xs X).heap H locs → lv_has ls (xn X) lv →
    W (xp X) (xl X) (xe X) (xR X) (xs X) (xm X) (xa X) (xb X) (xh X) (xc X) H locs k.1 k.2 (xQ X) (F0 (xm X) pc ls st)
/-- what holds all through a frame -/
def Ok (X : xX) (cc : ByteArray) (nL : Nat) (own : String) (rm : Room) (ret : Option FieldType) : Prop :=
  (xp X).tables.exec = Jvm.exec ∧ (xc X).code = cc ∧ ((xc X).maxLocals = nL ∧ xn X = nL) ∧ (xs X).vm.findClass own = some (xm X).cls ∧ (∀ w ∈ gt, w.before (xa X) (xs X) = true) ∧ ((xh X).locks = false ∧ (xh X).sig.returnType = ret) ∧ xR X = rm ∧ va_K (x_D (xGd X)) x_cl (x_tys (xGd X)) (xs X) ∧ (∀ q, (xs X).heap.size ≤ q → xA X q)
def xPre (G : xG) (A : Nat → Prop) (σ : St) (U : State) : Prop := Wd G A σ U.heap ∧ va_K (x_D G) x_cl (x_tys G) U ∧ ∀ q, U.heap.size ≤ q → A q
def xPost (v : Option Value) (G : xG) (A : Nat → Prop) (σ : St) : Array Value → State → Outcome → State → Prop := fun _ st oc t => oc = .returned v ∧ Wd G A σ t.heap ∧ t.heap.size = st.heap.size ∧ va_F A st t
def xws (y : MethodName) (b : ByteArray) (n : Nat) (r : Option FieldType) : List Cond := .code y b n r :: gt
/-- a method's contract: from the abstract heap σ, with the arguments as, it returns v and leaves σ' -/
def Con (l : Launch) (y : MethodName) (ws : List Cond) (rm : Room) (as : List Value) (G : xG) (A : Nat → Prop) (σ : St) (v : Option Value) (σ' : St) : Prop := Met l y ws rm (va_Pc as (xPre G A σ)) (xPost v G A σ') 0 0 A
def xE1 (X : xX) (v : Option Value) (σ' : St) : Prop := xQ X = MQ (xb X) (xPost v (xGd X) (xA X) σ') (xa X) (xs X) 0 0 (xA X)
theorem x_start {l : Launch} {y : MethodName} {cc : ByteArray} {maxL : Nat} {ret : Option FieldType} {rm : Room} {as : List Value} {G : xG} {A : Nat → Prop} {σ σ' : St} {v : Option Value} (hy : plainName y.cls = true) (hlen : (lg_sl as).length ≤ maxL)
    (h : ∀ X : xX, xl X = l → xGd X = G → xA X = A → Ok X cc maxL y.cls rm ret → xE1 X v σ' → V X (0, 0) σ 0 (lv_args 0 as) []) : Con l y (xws y cc maxL ret) rm as G A σ v σ' := by
  refine Met.ofW (cc := cc) (maxL := maxL) (ret := ret) hy rfl ?_
  intro p e s m args below meth c s₁ B hml hv
  obtain ⟨rfl, hW, hK, hA⟩ := hv
  have hts := atoms_spec (ws := xws y cc maxL ret) B.pre
  have hl := lv_entry as (n := maxL) hlen
  rw [lg_entry_eq]
  exact h (p, l, e, (headSpec (xws y cc maxL ret) rm).room, s, m, as.toArray, below, meth, c, maxL, A, G, MQ below (xPost v G A σ') as.toArray s 0 0 A) rfl rfl rfl ⟨B.exec, B.bytes, ⟨hml, rfl⟩, findClass_of_methodNamed B.named, fun w hw => hts w (List.mem_cons_of_mem _ hw), ⟨B.notSynchronized, B.returns⟩, rfl, hK, hA⟩ rfl s.heap [] _ rfl hW va_S.rf hl
section XV
variable {X : xX} {k : Nat × Nat} {σ σ' : St} {pc : Nat} {lv : List (Nat × Value)} {st : List Value} {cc : ByteArray} {nL : Nat} {own : String} {rm : Room} {ret : Option FieldType}
theorem x_topi {x y : Int32} (h : x = y) (kk : V X k σ pc lv (.int y :: st)) : V X k σ pc lv (.int x :: st) := h ▸ kk
theorem x_topl {x y : Int64} (h : x = y) (kk : V X k σ pc lv (.long y :: st)) : V X k σ pc lv (.long x :: st) := h ▸ kk
theorem x_iconst (C : Ok X cc nL own rm ret) {n : Int} (d : decode cc pc = .ok (.iconst n, 1)) (pc' : Nat) (hp : pc + 1 = pc') (v : Int32) (hv : Int32.ofInt n = v) (kk : V X k σ pc' lv (.int v :: st)) : V X k σ pc lv st := by
  subst hp; exact fun H locs ls hz hW hS hl => lv_iconst C.1 C.2.1 d hv (kk H locs ls hz hW hS hl)
theorem x_bipush (C : Ok X cc nL own rm ret) {n : Int} (d : decode cc pc = .ok (.bipush n, 2)) (pc' : Nat) (hp : pc + 2 = pc') (v : Int32) (hv : (Int8.ofInt n).toInt32 = v) (kk : V X k σ pc' lv (.int v :: st)) : V X k σ pc lv st := by
  subst hp; exact fun H locs ls hz hW hS hl => lv_bipush C.1 C.2.1 d hv (kk H locs ls hz hW hS hl)
theorem x_sipush (C : Ok X cc nL own rm ret) {n : Int} (d : decode cc pc = .ok (.sipush n, 3)) (pc' : Nat) (hp : pc + 3 = pc') (v : Int32) (hv : (Int16.ofInt n).toInt32 = v) (kk : V X k σ pc' lv (.int v :: st)) : V X k σ pc lv st := by
  subst hp; exact fun H locs ls hz hW hS hl => lv_sipush C.1 C.2.1 d hv (kk H locs ls hz hW hS hl)
theorem x_lconst (C : Ok X cc nL own rm ret) {n : Fin 2} (d : decode cc pc = .ok (.lconst n, 1)) (pc' : Nat) (hp : pc + 1 = pc') (v : Int64) (hv : Int64.ofNat (n : Nat) = v) (kk : V X k σ pc' lv (.long v :: st)) : V X k σ pc lv st := by
  subst hp; exact fun H locs ls hz hW hS hl => lv_lconst C.1 C.2.1 d hv (kk H locs ls hz hW hS hl)
theorem x_ldc2 (C : Ok X cc nL own rm ret) {index : Nat} {v : Int64} (d : decode cc pc = .ok (.ldc2_w index, 3)) (pc' : Nat) (hp : pc + 3 = pc') (hw : Cond.constantLong own index v ∈ gt) (kk : V X k σ pc' lv (.long v :: st)) : V X k σ pc lv st := by
  subst hp; exact fun H locs ls hz hW hS hl => lv_ldc2 C.1 C.2.1 C.2.2.2.1 (C.2.2.2.2.1 _ hw) d (kk H locs ls hz hW hS hl)
theorem x_ldc (C : Ok X cc nL own rm ret) {index : Nat} {v : Int32} (d : decode cc pc = .ok (.ldc index, 2)) (pc' : Nat) (hp : pc + 2 = pc') (hw : Cond.constant own index v ∈ gt) (kk : V X k σ pc' lv (.int v :: st)) : V X k σ pc lv st := by
  subst hp; exact fun H locs ls hz hW hS hl => lv_ldc C.1 C.2.1 C.2.2.2.1 (C.2.2.2.2.1 _ hw) d (kk H locs ls hz hW hS hl)
theorem x_ldcw (C : Ok X cc nL own rm ret) {index : Nat} {v : Int32} (d : decode cc pc = .ok (.ldc_w index, 3)) (pc' : Nat) (hp : pc + 3 = pc') (hw : Cond.constant own index v ∈ gt) (kk : V X k σ pc' lv (.int v :: st)) : V X k σ pc lv st := by
  subst hp; exact fun H locs ls hz hW hS hl => lv_ldcw C.1 C.2.1 C.2.2.2.1 (C.2.2.2.2.1 _ hw) d (kk H locs ls hz hW hS hl)
theorem x_iload_n (C : Ok X cc nL own rm ret) {n : Fin 4} (d : decode cc pc = .ok (.iload_n n, 1)) (pc' : Nat) (hp : pc + 1 = pc') (j : Nat) {i : Nat} {x : Int32} (hi : (n : Nat) = i) (hk : lv[j]? = some (i, .int x)) (kk : V X k σ pc' lv (.int x :: st)) : V X k σ pc lv st := by
  subst hp; exact fun H locs ls hz hW hS hl => lv_iload_n C.1 C.2.1 d hi (lv_at hl j hk) (kk H locs ls hz hW hS hl)
theorem x_iload (C : Ok X cc nL own rm ret) {i : Nat} (d : decode cc pc = .ok (.iload i, 2)) (pc' : Nat) (hp : pc + 2 = pc') (j : Nat) {x : Int32} (hk : lv[j]? = some (i, .int x)) (kk : V X k σ pc' lv (.int x :: st)) : V X k σ pc lv st := by
  subst hp; exact fun H locs ls hz hW hS hl => lv_iload C.1 C.2.1 d (lv_at hl j hk) (kk H locs ls hz hW hS hl)
theorem x_lload_n (C : Ok X cc nL own rm ret) {n : Fin 4} (d : decode cc pc = .ok (.lload_n n, 1)) (pc' : Nat) (hp : pc + 1 = pc') (j : Nat) {i : Nat} {x : Int64} (hi : (n : Nat) = i) (hk : lv[j]? = some (i, .long x)) (kk : V X k σ pc' lv (.long x :: st)) : V X k σ pc lv st := by
  subst hp; exact fun H locs ls hz hW hS hl => lv_lload_n C.1 C.2.1 d hi (lv_at hl j hk) (kk H locs ls hz hW hS hl)
theorem x_lload (C : Ok X cc nL own rm ret) {i : Nat} (d : decode cc pc = .ok (.lload i, 2)) (pc' : Nat) (hp : pc + 2 = pc') (j : Nat) {x : Int64} (hk : lv[j]? = some (i, .long x)) (kk : V X k σ pc' lv (.long x :: st)) : V X k σ pc lv st := by
  subst hp; exact fun H locs ls hz hW hS hl => lv_lload C.1 C.2.1 d (lv_at hl j hk) (kk H locs ls hz hW hS hl)
theorem x_aload_n (C : Ok X cc nL own rm ret) {n : Fin 4} (d : decode cc pc = .ok (.aload_n n, 1)) (pc' : Nat) (hp : pc + 1 = pc') (j : Nat) {i x : Nat} (hi : (n : Nat) = i) (hk : lv[j]? = some (i, .ref x)) (kk : V X k σ pc' lv (.ref x :: st)) : V X k σ pc lv st := by
  subst hp; exact fun H locs ls hz hW hS hl => lv_aload_n C.1 C.2.1 d hi (lv_at hl j hk) (kk H locs ls hz hW hS hl)
theorem x_aload (C : Ok X cc nL own rm ret) {i : Nat} (d : decode cc pc = .ok (.aload i, 2)) (pc' : Nat) (hp : pc + 2 = pc') (j : Nat) {x : Nat} (hk : lv[j]? = some (i, .ref x)) (kk : V X k σ pc' lv (.ref x :: st)) : V X k σ pc lv st := by
  subst hp; exact fun H locs ls hz hW hS hl => lv_aload C.1 C.2.1 d (lv_at hl j hk) (kk H locs ls hz hW hS hl)
theorem x_lt (C : Ok X cc nL own rm ret) {i : Nat} (hi : Nat.blt i nL = true) : i < xn X := by rw [C.2.2.1.2]; exact Nat.le_of_ble_eq_true hi
def lv1 (lv : List (Nat × Value)) (i : Nat) (v : Value) : List (Nat × Value) := (i, v) :: lv.filter (fun q => !(q.1 == i) && !(q.1 + 1 == i && q.2.category == 2))
def lv2 (lv : List (Nat × Value)) (i : Nat) (v : Value) : List (Nat × Value) := (i, v) :: lv.filter (fun q => !(q.1 == i) && (!(q.1 == i + 1) && !(q.1 + 1 == i && q.2.category == 2)))
theorem x_istore_n (C : Ok X cc nL own rm ret) {n : Fin 4} (d : decode cc pc = .ok (.istore_n n, 1)) (pc' : Nat) (hp : pc + 1 = pc') {i : Nat} {x : Int32} (hi : (n : Nat) = i) (hn : Nat.blt i nL = true) (lv' : List (Nat × Value)) (hl : lv1 lv i (.int x) = lv') (kk : V X k σ pc' lv' st) : V X k σ pc lv (.int x :: st) := by
  subst hp; exact fun H locs ls hz hW hS h => lv_istore_n C.1 C.2.1 d hi h (x_lt C hn) hl (fun ls' h' => kk H locs ls' hz hW hS h')
theorem x_istore (C : Ok X cc nL own rm ret) {i : Nat} (d : decode cc pc = .ok (.istore i, 2)) (pc' : Nat) (hp : pc + 2 = pc') {x : Int32} (hn : Nat.blt i nL = true) (lv' : List (Nat × Value)) (hl : lv1 lv i (.int x) = lv') (kk : V X k σ pc' lv' st) : V X k σ pc lv (.int x :: st) := by
  subst hp; exact fun H locs ls hz hW hS h => lv_istore C.1 C.2.1 d h (x_lt C hn) hl (fun ls' h' => kk H locs ls' hz hW hS h')
theorem x_lstore_n (C : Ok X cc nL own rm ret) {n : Fin 4} (d : decode cc pc = .ok (.lstore_n n, 1)) (pc' : Nat) (hp : pc + 1 = pc') {i : Nat} {x : Int64} (hi : (n : Nat) = i) (hn : Nat.blt (i + 1) nL = true) (lv' : List (Nat × Value)) (hl : lv2 lv i (.long x) = lv') (kk : V X k σ pc' lv' st) : V X k σ pc lv (.long x :: st) := by
  subst hp; exact fun H locs ls hz hW hS h => lv_lstore_n C.1 C.2.1 d hi h (x_lt C hn) hl (fun ls' h' => kk H locs ls' hz hW hS h')
theorem x_lstore (C : Ok X cc nL own rm ret) {i : Nat} (d : decode cc pc = .ok (.lstore i, 2)) (pc' : Nat) (hp : pc + 2 = pc') {x : Int64} (hn : Nat.blt (i + 1) nL = true) (lv' : List (Nat × Value)) (hl : lv2 lv i (.long x) = lv') (kk : V X k σ pc' lv' st) : V X k σ pc lv (.long x :: st) := by
  subst hp; exact fun H locs ls hz hW hS h => lv_lstore C.1 C.2.1 d h (x_lt C hn) hl (fun ls' h' => kk H locs ls' hz hW hS h')
theorem x_astore_n (C : Ok X cc nL own rm ret) {n : Fin 4} (d : decode cc pc = .ok (.astore_n n, 1)) (pc' : Nat) (hp : pc + 1 = pc') {i x : Nat} (hi : (n : Nat) = i) (hn : Nat.blt i nL = true) (lv' : List (Nat × Value)) (hl : lv1 lv i (.ref x) = lv') (kk : V X k σ pc' lv' st) : V X k σ pc lv (.ref x :: st) := by
  subst hp; exact fun H locs ls hz hW hS h => lv_astore_n C.1 C.2.1 d hi h (x_lt C hn) hl (fun ls' h' => kk H locs ls' hz hW hS h')
theorem x_astore (C : Ok X cc nL own rm ret) {i : Nat} (d : decode cc pc = .ok (.astore i, 2)) (pc' : Nat) (hp : pc + 2 = pc') {x : Nat} (hn : Nat.blt i nL = true) (lv' : List (Nat × Value)) (hl : lv1 lv i (.ref x) = lv') (kk : V X k σ pc' lv' st) : V X k σ pc lv (.ref x :: st) := by
  subst hp; exact fun H locs ls hz hW hS h => lv_astore C.1 C.2.1 d h (x_lt C hn) hl (fun ls' h' => kk H locs ls' hz hW hS h')
theorem x_iinc (C : Ok X cc nL own rm ret) {i : Nat} {n : Int} (d : decode cc pc = .ok (.iinc i n, 3)) (pc' : Nat) (hp : pc + 3 = pc') (j : Nat) {x : Int32} (hk : lv[j]? = some (i, .int x)) (v : Int32) (hv : x + Int32.ofInt n = v) (hn : Nat.blt i nL = true) (lv' : List (Nat × Value)) (hl : lv1 lv i (.int v) = lv') (kk : V X k σ pc' lv' st) : V X k σ pc lv st := by
  subst hp; exact fun H locs ls hz hW hS h => lv_iinc C.1 C.2.1 d h hk hv (x_lt C hn) hl (fun ls' h' => kk H locs ls' hz hW hS h')
/-- fewer listed locals, in any order -/
theorem x_lv (ks : List Nat) {lv' : List (Nat × Value)} (hl : lv_pick lv ks = lv') (kk : V X k σ pc lv' st) : V X k σ pc lv st := fun H locs ls hz hW hS h => kk H locs ls hz hW hS (lv_sub h ks hl)
theorem x_iadd (C : Ok X cc nL own rm ret) {x y : Int32} (d : decode cc pc = .ok (.iadd, 1)) (pc' : Nat) (hp : pc + 1 = pc') (kk : V X k σ pc' lv (.int (x + y) :: st)) : V X k σ pc lv (.int y :: .int x :: st) := by
  subst hp; exact fun H locs ls hz hW hS hl => lv_iadd C.1 C.2.1 d (kk H locs ls hz hW hS hl)
theorem x_isub (C : Ok X cc nL own rm ret) {x y : Int32} (d : decode cc pc = .ok (.isub, 1)) (pc' : Nat) (hp : pc + 1 = pc') (kk : V X k σ pc' lv (.int (x - y) :: st)) : V X k σ pc lv (.int y :: .int x :: st) := by
  subst hp; exact fun H locs ls hz hW hS hl => lv_isub C.1 C.2.1 d (kk H locs ls hz hW hS hl)
theorem x_imul (C : Ok X cc nL own rm ret) {x y : Int32} (d : decode cc pc = .ok (.imul, 1)) (pc' : Nat) (hp : pc + 1 = pc') (kk : V X k σ pc' lv (.int (x * y) :: st)) : V X k σ pc lv (.int y :: .int x :: st) := by
  subst hp; exact fun H locs ls hz hW hS hl => lv_imul C.1 C.2.1 d (kk H locs ls hz hW hS hl)
theorem x_iand (C : Ok X cc nL own rm ret) {x y : Int32} (d : decode cc pc = .ok (.iand, 1)) (pc' : Nat) (hp : pc + 1 = pc') (kk : V X k σ pc' lv (.int (x &&& y) :: st)) : V X k σ pc lv (.int y :: .int x :: st) := by
  subst hp; exact fun H locs ls hz hW hS hl => lv_iand C.1 C.2.1 d (kk H locs ls hz hW hS hl)
theorem x_ior (C : Ok X cc nL own rm ret) {x y : Int32} (d : decode cc pc = .ok (.ior, 1)) (pc' : Nat) (hp : pc + 1 = pc') (kk : V X k σ pc' lv (.int (x ||| y) :: st)) : V X k σ pc lv (.int y :: .int x :: st) := by
  subst hp; exact fun H locs ls hz hW hS hl => lv_ior C.1 C.2.1 d (kk H locs ls hz hW hS hl)
theorem x_ixor (C : Ok X cc nL own rm ret) {x y : Int32} (d : decode cc pc = .ok (.ixor, 1)) (pc' : Nat) (hp : pc + 1 = pc') (kk : V X k σ pc' lv (.int (x ^^^ y) :: st)) : V X k σ pc lv (.int y :: .int x :: st) := by
  subst hp; exact fun H locs ls hz hW hS hl => lv_ixor C.1 C.2.1 d (kk H locs ls hz hW hS hl)
theorem x_ishl (C : Ok X cc nL own rm ret) {x y : Int32} (d : decode cc pc = .ok (.ishl, 1)) (pc' : Nat) (hp : pc + 1 = pc') (kk : V X k σ pc' lv (.int (x <<< (y &&& 31)) :: st)) : V X k σ pc lv (.int y :: .int x :: st) := by
  subst hp; exact fun H locs ls hz hW hS hl => lv_ishl C.1 C.2.1 d (kk H locs ls hz hW hS hl)
theorem x_ishr (C : Ok X cc nL own rm ret) {x y : Int32} (d : decode cc pc = .ok (.ishr, 1)) (pc' : Nat) (hp : pc + 1 = pc') (kk : V X k σ pc' lv (.int (x >>> (y &&& 31)) :: st)) : V X k σ pc lv (.int y :: .int x :: st) := by
  subst hp; exact fun H locs ls hz hW hS hl => lv_ishr C.1 C.2.1 d (kk H locs ls hz hW hS hl)
theorem x_ladd (C : Ok X cc nL own rm ret) {x y : Int64} (d : decode cc pc = .ok (.ladd, 1)) (pc' : Nat) (hp : pc + 1 = pc') (kk : V X k σ pc' lv (.long (x + y) :: st)) : V X k σ pc lv (.long y :: .long x :: st) := by
  subst hp; exact fun H locs ls hz hW hS hl => lv_ladd C.1 C.2.1 d (kk H locs ls hz hW hS hl)
theorem x_lsub (C : Ok X cc nL own rm ret) {x y : Int64} (d : decode cc pc = .ok (.lsub, 1)) (pc' : Nat) (hp : pc + 1 = pc') (kk : V X k σ pc' lv (.long (x - y) :: st)) : V X k σ pc lv (.long y :: .long x :: st) := by
  subst hp; exact fun H locs ls hz hW hS hl => lv_lsub C.1 C.2.1 d (kk H locs ls hz hW hS hl)
theorem x_lmul (C : Ok X cc nL own rm ret) {x y : Int64} (d : decode cc pc = .ok (.lmul, 1)) (pc' : Nat) (hp : pc + 1 = pc') (kk : V X k σ pc' lv (.long (x * y) :: st)) : V X k σ pc lv (.long y :: .long x :: st) := by
  subst hp; exact fun H locs ls hz hW hS hl => lv_lmul C.1 C.2.1 d (kk H locs ls hz hW hS hl)
theorem x_land (C : Ok X cc nL own rm ret) {x y : Int64} (d : decode cc pc = .ok (.land, 1)) (pc' : Nat) (hp : pc + 1 = pc') (kk : V X k σ pc' lv (.long (x &&& y) :: st)) : V X k σ pc lv (.long y :: .long x :: st) := by
  subst hp; exact fun H locs ls hz hW hS hl => lv_land C.1 C.2.1 d (kk H locs ls hz hW hS hl)
theorem x_lor (C : Ok X cc nL own rm ret) {x y : Int64} (d : decode cc pc = .ok (.lor, 1)) (pc' : Nat) (hp : pc + 1 = pc') (kk : V X k σ pc' lv (.long (x ||| y) :: st)) : V X k σ pc lv (.long y :: .long x :: st) := by
  subst hp; exact fun H locs ls hz hW hS hl => lv_lor C.1 C.2.1 d (kk H locs ls hz hW hS hl)
theorem x_lxor (C : Ok X cc nL own rm ret) {x y : Int64} (d : decode cc pc = .ok (.lxor, 1)) (pc' : Nat) (hp : pc + 1 = pc') (kk : V X k σ pc' lv (.long (x ^^^ y) :: st)) : V X k σ pc lv (.long y :: .long x :: st) := by
  subst hp; exact fun H locs ls hz hW hS hl => lv_lxor C.1 C.2.1 d (kk H locs ls hz hW hS hl)
theorem x_ldiv (C : Ok X cc nL own rm ret) {x y : Int64} (d : decode cc pc = .ok (.ldiv, 1)) (pc' : Nat) (hp : pc + 1 = pc') (hne : ¬ y = 0) (kk : V X k σ pc' lv (.long (x / y) :: st)) : V X k σ pc lv (.long y :: .long x :: st) := by
  subst hp; exact fun H locs ls hz hW hS hl => lv_ldiv C.1 C.2.1 d hne (kk H locs ls hz hW hS hl)
theorem x_lrem (C : Ok X cc nL own rm ret) {x y : Int64} (d : decode cc pc = .ok (.lrem, 1)) (pc' : Nat) (hp : pc + 1 = pc') (hne : ¬ y = 0) (kk : V X k σ pc' lv (.long (x - x / y * y) :: st)) : V X k σ pc lv (.long y :: .long x :: st) := by
  subst hp; exact fun H locs ls hz hW hS hl => lv_lrem C.1 C.2.1 d hne (kk H locs ls hz hW hS hl)
theorem x_idiv (C : Ok X cc nL own rm ret) {x y : Int32} (d : decode cc pc = .ok (.idiv, 1)) (pc' : Nat) (hp : pc + 1 = pc') (hne : ¬ y = 0) (kk : V X k σ pc' lv (.int (x / y) :: st)) : V X k σ pc lv (.int y :: .int x :: st) := by
  subst hp; exact fun H locs ls hz hW hS hl => lv_idiv C.1 C.2.1 d hne (kk H locs ls hz hW hS hl)
theorem x_irem (C : Ok X cc nL own rm ret) {x y : Int32} (d : decode cc pc = .ok (.irem, 1)) (pc' : Nat) (hp : pc + 1 = pc') (hne : ¬ y = 0) (kk : V X k σ pc' lv (.int (x - x / y * y) :: st)) : V X k σ pc lv (.int y :: .int x :: st) := by
  subst hp; exact fun H locs ls hz hW hS hl => lv_irem C.1 C.2.1 d hne (kk H locs ls hz hW hS hl)
theorem x_lushr (C : Ok X cc nL own rm ret) {x : Int64} {y : Int32} (d : decode cc pc = .ok (.lushr, 1)) (pc' : Nat) (hp : pc + 1 = pc') (kk : V X k σ pc' lv (.long ((x.toUInt64 >>> (y.toInt64.toUInt64 &&& Int64.toUInt64 63)).toInt64) :: st)) : V X k σ pc lv (.int y :: .long x :: st) := by
  subst hp; exact fun H locs ls hz hW hS hl => lv_lushr C.1 C.2.1 d rfl (kk H locs ls hz hW hS hl)
theorem x_lshl (C : Ok X cc nL own rm ret) {x : Int64} {y : Int32} (d : decode cc pc = .ok (.lshl, 1)) (pc' : Nat) (hp : pc + 1 = pc') (kk : V X k σ pc' lv (.long (x <<< (y.toInt64 &&& 63)) :: st)) : V X k σ pc lv (.int y :: .long x :: st) := by
  subst hp; exact fun H locs ls hz hW hS hl => lv_lshl C.1 C.2.1 d rfl (kk H locs ls hz hW hS hl)
theorem x_lshr (C : Ok X cc nL own rm ret) {x : Int64} {y : Int32} (d : decode cc pc = .ok (.lshr, 1)) (pc' : Nat) (hp : pc + 1 = pc') (kk : V X k σ pc' lv (.long (x >>> (y.toInt64 &&& 63)) :: st)) : V X k σ pc lv (.int y :: .long x :: st) := by
  subst hp; exact fun H locs ls hz hW hS hl => lv_lshr C.1 C.2.1 d rfl (kk H locs ls hz hW hS hl)
theorem x_iushr (C : Ok X cc nL own rm ret) {x y : Int32} (d : decode cc pc = .ok (.iushr, 1)) (pc' : Nat) (hp : pc + 1 = pc') (kk : V X k σ pc' lv (.int ((x.toUInt32 >>> (y.toUInt32 &&& Int32.toUInt32 31)).toInt32) :: st)) : V X k σ pc lv (.int y :: .int x :: st) := by
  subst hp; exact fun H locs ls hz hW hS hl => lv_iushr C.1 C.2.1 d rfl (kk H locs ls hz hW hS hl)
theorem x_ineg (C : Ok X cc nL own rm ret) {x : Int32} (d : decode cc pc = .ok (.ineg, 1)) (pc' : Nat) (hp : pc + 1 = pc') (kk : V X k σ pc' lv (.int (-x) :: st)) : V X k σ pc lv (.int x :: st) := by
  subst hp; exact fun H locs ls hz hW hS hl => lv_ineg C.1 C.2.1 d (kk H locs ls hz hW hS hl)
theorem x_i2l (C : Ok X cc nL own rm ret) {x : Int32} (d : decode cc pc = .ok (.i2l, 1)) (pc' : Nat) (hp : pc + 1 = pc') (kk : V X k σ pc' lv (.long (x.toInt64) :: st)) : V X k σ pc lv (.int x :: st) := by
  subst hp; exact fun H locs ls hz hW hS hl => lv_i2l C.1 C.2.1 d rfl (kk H locs ls hz hW hS hl)
theorem x_l2i (C : Ok X cc nL own rm ret) {x : Int64} (d : decode cc pc = .ok (.l2i, 1)) (pc' : Nat) (hp : pc + 1 = pc') (kk : V X k σ pc' lv (.int (x.toInt32) :: st)) : V X k σ pc lv (.long x :: st) := by
  subst hp; exact fun H locs ls hz hW hS hl => lv_l2i C.1 C.2.1 d rfl (kk H locs ls hz hW hS hl)
theorem x_i2b (C : Ok X cc nL own rm ret) {x : Int32} (d : decode cc pc = .ok (.i2b, 1)) (pc' : Nat) (hp : pc + 1 = pc') (kk : V X k σ pc' lv (.int (x.toInt8.toInt32) :: st)) : V X k σ pc lv (.int x :: st) := by
  subst hp; exact fun H locs ls hz hW hS hl => lv_i2b C.1 C.2.1 d rfl (kk H locs ls hz hW hS hl)
theorem x_i2c (C : Ok X cc nL own rm ret) {x : Int32} (d : decode cc pc = .ok (.i2c, 1)) (pc' : Nat) (hp : pc + 1 = pc') (kk : V X k σ pc' lv (.int ((x.toUInt32 % 65536).toInt32) :: st)) : V X k σ pc lv (.int x :: st) := by
  subst hp; exact fun H locs ls hz hW hS hl => lv_i2c C.1 C.2.1 d rfl (kk H locs ls hz hW hS hl)
theorem x_lcmp (C : Ok X cc nL own rm ret) {x y : Int64} (d : decode cc pc = .ok (.lcmp, 1)) (pc' : Nat) (hp : pc + 1 = pc') (kk : V X k σ pc' lv (.int (lg_cmp x y) :: st)) : V X k σ pc lv (.long y :: .long x :: st) := by
  subst hp; exact fun H locs ls hz hW hS hl => W.lcmp C.1 C.2.1 d (kk H locs ls hz hW hS hl)
theorem x_dup (C : Ok X cc nL own rm ret) {a : Value} (d : decode cc pc = .ok (.dup, 1)) (pc' : Nat) (hp : pc + 1 = pc') (h : a.category = 1) (kk : V X k σ pc' lv (a :: a :: st)) : V X k σ pc lv (a :: st) := by
  subst hp; exact fun H locs ls hz hW hS hl => lv_dup C.1 C.2.1 d h (kk H locs ls hz hW hS hl)
theorem x_pop (C : Ok X cc nL own rm ret) {a : Value} (d : decode cc pc = .ok (.pop, 1)) (pc' : Nat) (hp : pc + 1 = pc') (h : a.category = 1) (kk : V X k σ pc' lv st) : V X k σ pc lv (a :: st) := by
  subst hp; exact fun H locs ls hz hW hS hl => lv_pop C.1 C.2.1 d h (kk H locs ls hz hW hS hl)
theorem x_pop2 (C : Ok X cc nL own rm ret) {a : Value} (d : decode cc pc = .ok (.pop2, 1)) (pc' : Nat) (hp : pc + 1 = pc') (h : a.category = 2) (kk : V X k σ pc' lv st) : V X k σ pc lv (a :: st) := by
  subst hp; exact fun H locs ls hz hW hS hl => lv_pop2_2 C.1 C.2.1 d h (kk H locs ls hz hW hS hl)
theorem x_dup_x1 (C : Ok X cc nL own rm ret) {a b : Value} (d : decode cc pc = .ok (.dup_x1, 1)) (pc' : Nat) (hp : pc + 1 = pc') (h : a.category = 1) (h2 : b.category = 1) (kk : V X k σ pc' lv (a :: b :: a :: st)) : V X k σ pc lv (a :: b :: st) := by
  subst hp; exact fun H locs ls hz hW hS hl => lv_dup_x1 C.1 C.2.1 d h h2 (kk H locs ls hz hW hS hl)
theorem x_dup2 (C : Ok X cc nL own rm ret) {a b : Value} (d : decode cc pc = .ok (.dup2, 1)) (pc' : Nat) (hp : pc + 1 = pc') (h : a.category = 1) (h2 : b.category = 1) (kk : V X k σ pc' lv (a :: b :: a :: b :: st)) : V X k σ pc lv (a :: b :: st) := by
  subst hp; exact fun H locs ls hz hW hS hl => lv_dup2_11 C.1 C.2.1 d h h2 (kk H locs ls hz hW hS hl)
theorem x_dup2_2 (C : Ok X cc nL own rm ret) {a : Value} (d : decode cc pc = .ok (.dup2, 1)) (pc' : Nat) (hp : pc + 1 = pc') (h : a.category = 2) (kk : V X k σ pc' lv (a :: a :: st)) : V X k σ pc lv (a :: st) := by
  subst hp; exact fun H locs ls hz hW hS hl => lv_dup2_2 C.1 C.2.1 d h (kk H locs ls hz hW hS hl)
theorem x_if_eq (C : Ok X cc nL own rm ret) {x : Int32} {off : Int} (d : decode cc pc = .ok (.ifCond .eq off, 3)) (tgt : Nat) (ht : (pc : Int) + off = (tgt : Int)) (pc' : Nat) (hp : pc + 3 = pc') (kt : x = 0 → V X k σ tgt lv st) (kf : ¬ x = 0 → V X k σ pc' lv st) : V X k σ pc lv (.int x :: st) := by
  subst hp; exact fun H locs ls hz hW hS hl => lv_if_eq C.1 C.2.1 d ht (fun h => kt h H locs ls hz hW hS hl) (fun h => kf h H locs ls hz hW hS hl)
theorem x_if_ne (C : Ok X cc nL own rm ret) {x : Int32} {off : Int} (d : decode cc pc = .ok (.ifCond .ne off, 3)) (tgt : Nat) (ht : (pc : Int) + off = (tgt : Int)) (pc' : Nat) (hp : pc + 3 = pc') (kt : ¬ x = 0 → V X k σ tgt lv st) (kf : x = 0 → V X k σ pc' lv st) : V X k σ pc lv (.int x :: st) := by
  subst hp; exact fun H locs ls hz hW hS hl => lv_if_ne C.1 C.2.1 d ht (fun h => kt h H locs ls hz hW hS hl) (fun h => kf h H locs ls hz hW hS hl)
theorem x_if_lt (C : Ok X cc nL own rm ret) {x : Int32} {off : Int} (d : decode cc pc = .ok (.ifCond .lt off, 3)) (tgt : Nat) (ht : (pc : Int) + off = (tgt : Int)) (pc' : Nat) (hp : pc + 3 = pc') (kt : x < 0 → V X k σ tgt lv st) (kf : ¬ x < 0 → V X k σ pc' lv st) : V X k σ pc lv (.int x :: st) := by
  subst hp; exact fun H locs ls hz hW hS hl => lv_if_lt C.1 C.2.1 d ht (fun h => kt h H locs ls hz hW hS hl) (fun h => kf h H locs ls hz hW hS hl)
theorem x_if_ge (C : Ok X cc nL own rm ret) {x : Int32} {off : Int} (d : decode cc pc = .ok (.ifCond .ge off, 3)) (tgt : Nat) (ht : (pc : Int) + off = (tgt : Int)) (pc' : Nat) (hp : pc + 3 = pc') (kt : 0 ≤ x → V X k σ tgt lv st) (kf : ¬ 0 ≤ x → V X k σ pc' lv st) : V X k σ pc lv (.int x :: st) := by
  subst hp; exact fun H locs ls hz hW hS hl => lv_if_ge C.1 C.2.1 d ht (fun h => kt h H locs ls hz hW hS hl) (fun h => kf h H locs ls hz hW hS hl)
theorem x_if_gt (C : Ok X cc nL own rm ret) {x : Int32} {off : Int} (d : decode cc pc = .ok (.ifCond .gt off, 3)) (tgt : Nat) (ht : (pc : Int) + off = (tgt : Int)) (pc' : Nat) (hp : pc + 3 = pc') (kt : 0 < x → V X k σ tgt lv st) (kf : ¬ 0 < x → V X k σ pc' lv st) : V X k σ pc lv (.int x :: st) := by
  subst hp; exact fun H locs ls hz hW hS hl => lv_if_gt C.1 C.2.1 d ht (fun h => kt h H locs ls hz hW hS hl) (fun h => kf h H locs ls hz hW hS hl)
theorem x_if_le (C : Ok X cc nL own rm ret) {x : Int32} {off : Int} (d : decode cc pc = .ok (.ifCond .le off, 3)) (tgt : Nat) (ht : (pc : Int) + off = (tgt : Int)) (pc' : Nat) (hp : pc + 3 = pc') (kt : x ≤ 0 → V X k σ tgt lv st) (kf : ¬ x ≤ 0 → V X k σ pc' lv st) : V X k σ pc lv (.int x :: st) := by
  subst hp; exact fun H locs ls hz hW hS hl => lv_if_le C.1 C.2.1 d ht (fun h => kt h H locs ls hz hW hS hl) (fun h => kf h H locs ls hz hW hS hl)
theorem x_icmp_eq (C : Ok X cc nL own rm ret) {x y : Int32} {off : Int} (d : decode cc pc = .ok (.if_icmp .eq off, 3)) (tgt : Nat) (ht : (pc : Int) + off = (tgt : Int)) (pc' : Nat) (hp : pc + 3 = pc') (kt : x = y → V X k σ tgt lv st) (kf : ¬ x = y → V X k σ pc' lv st) : V X k σ pc lv (.int y :: .int x :: st) := by
  subst hp; exact fun H locs ls hz hW hS hl => lv_icmp_eq C.1 C.2.1 d ht (fun h => kt h H locs ls hz hW hS hl) (fun h => kf h H locs ls hz hW hS hl)
theorem x_icmp_ne (C : Ok X cc nL own rm ret) {x y : Int32} {off : Int} (d : decode cc pc = .ok (.if_icmp .ne off, 3)) (tgt : Nat) (ht : (pc : Int) + off = (tgt : Int)) (pc' : Nat) (hp : pc + 3 = pc') (kt : ¬ x = y → V X k σ tgt lv st) (kf : x = y → V X k σ pc' lv st) : V X k σ pc lv (.int y :: .int x :: st) := by
  subst hp; exact fun H locs ls hz hW hS hl => lv_icmp_ne C.1 C.2.1 d ht (fun h => kt h H locs ls hz hW hS hl) (fun h => kf h H locs ls hz hW hS hl)
theorem x_icmp_lt (C : Ok X cc nL own rm ret) {x y : Int32} {off : Int} (d : decode cc pc = .ok (.if_icmp .lt off, 3)) (tgt : Nat) (ht : (pc : Int) + off = (tgt : Int)) (pc' : Nat) (hp : pc + 3 = pc') (kt : x < y → V X k σ tgt lv st) (kf : ¬ x < y → V X k σ pc' lv st) : V X k σ pc lv (.int y :: .int x :: st) := by
  subst hp; exact fun H locs ls hz hW hS hl => lv_icmp_lt C.1 C.2.1 d ht (fun h => kt h H locs ls hz hW hS hl) (fun h => kf h H locs ls hz hW hS hl)
theorem x_icmp_ge (C : Ok X cc nL own rm ret) {x y : Int32} {off : Int} (d : decode cc pc = .ok (.if_icmp .ge off, 3)) (tgt : Nat) (ht : (pc : Int) + off = (tgt : Int)) (pc' : Nat) (hp : pc + 3 = pc') (kt : y ≤ x → V X k σ tgt lv st) (kf : ¬ y ≤ x → V X k σ pc' lv st) : V X k σ pc lv (.int y :: .int x :: st) := by
  subst hp; exact fun H locs ls hz hW hS hl => lv_icmp_ge C.1 C.2.1 d ht (fun h => kt h H locs ls hz hW hS hl) (fun h => kf h H locs ls hz hW hS hl)
theorem x_icmp_gt (C : Ok X cc nL own rm ret) {x y : Int32} {off : Int} (d : decode cc pc = .ok (.if_icmp .gt off, 3)) (tgt : Nat) (ht : (pc : Int) + off = (tgt : Int)) (pc' : Nat) (hp : pc + 3 = pc') (kt : y < x → V X k σ tgt lv st) (kf : ¬ y < x → V X k σ pc' lv st) : V X k σ pc lv (.int y :: .int x :: st) := by
  subst hp; exact fun H locs ls hz hW hS hl => lv_icmp_gt C.1 C.2.1 d ht (fun h => kt h H locs ls hz hW hS hl) (fun h => kf h H locs ls hz hW hS hl)
theorem x_icmp_le (C : Ok X cc nL own rm ret) {x y : Int32} {off : Int} (d : decode cc pc = .ok (.if_icmp .le off, 3)) (tgt : Nat) (ht : (pc : Int) + off = (tgt : Int)) (pc' : Nat) (hp : pc + 3 = pc') (kt : x ≤ y → V X k σ tgt lv st) (kf : ¬ x ≤ y → V X k σ pc' lv st) : V X k σ pc lv (.int y :: .int x :: st) := by
  subst hp; exact fun H locs ls hz hW hS hl => lv_icmp_le C.1 C.2.1 d ht (fun h => kt h H locs ls hz hW hS hl) (fun h => kf h H locs ls hz hW hS hl)
theorem x_goto (C : Ok X cc nL own rm ret) {off : Int} (d : decode cc pc = .ok (.goto off, 3)) (tgt : Nat) (ht : (pc : Int) + off = (tgt : Int)) (kk : V X k σ tgt lv st) : V X k σ pc lv st := fun H locs ls hz hW hS hl => lv_goto C.1 C.2.1 d ht (kk H locs ls hz hW hS hl)
theorem x_tableOut (C : Ok X cc nL own rm ret) {dflt lo hi : Int} {offs : Array Int} {len : Nat} {x : Int32} (d : decode cc pc = .ok (.tableswitch dflt lo hi offs, len)) (h : x.toInt < lo ∨ hi < x.toInt) (tgt : Nat) (ht : (pc : Int) + dflt = (tgt : Int)) (kk : V X k σ tgt lv st) : V X k σ pc lv (.int x :: st) := fun H locs ls hz hW hS hl => lv_tableOut C.1 C.2.1 d h ht (kk H locs ls hz hW hS hl)
theorem x_tableIn (C : Ok X cc nL own rm ret) {dflt lo hi : Int} {offs : Array Int} {len : Nat} {x : Int32} {off : Int} (d : decode cc pc = .ok (.tableswitch dflt lo hi offs, len)) (h1 : ¬ x.toInt < lo) (h2 : ¬ hi < x.toInt) (ho : offs[(x.toInt - lo).toNat]? = some off) (tgt : Nat) (ht : (pc : Int) + off = (tgt : Int)) (kk : V X k σ tgt lv st) : V X k σ pc lv (.int x :: st) := fun H locs ls hz hW hS hl => lv_tableIn C.1 C.2.1 d h1 h2 ho ht (kk H locs ls hz hW hS hl)
end XV
