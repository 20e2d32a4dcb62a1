/-! the layer's rows in the form that the writer of rows uses -/
theorem zok_w {v w : Int32} (h : zok v = some w) : narrow .boolean (.int w) = .int w := by
  obtain ⟨rfl, h2⟩ := zok_nar h
  exact h2
theorem x_loop {α β : Type} {f : α → Option (α ⊕ β)} {P : α → Prop} {b : β} (body : ∀ a c, f a = some c → (∀ a', c = Sum.inl a' → P a') → (∀ b', c = Sum.inr b' → b' = b) → P a) : ∀ n a, iterN f n a = some b → P a := by
  intro n
  induction n with
  | zero => intro a h; cases h
  | succ n ih =>
    intro a h
    unfold iterN at h
    obtain ⟨c, h1, h2⟩ := x_bind h
    refine body a c h1 (fun a' e => ?_) (fun b' e => ?_)
    · subst e
      exact ih a' h2
    · subst e
      exact Option.some.inj h2
def imin (x y : Int32) : Int32 := if y < x then y else x
def imax (x y : Int32) : Int32 := if x < y then y else x
section XV
variable {X : xX} {k : Nat × Nat} {σ σ' : St} {pc : Nat} {lv : List (Nat × Value)} {st : List Value} {cc : ByteArray} {nL : Nat} {own : String} {rm : Room} {ret : Option FieldType}
theorem x_getI (C : Ok X cc nL own rm ret) {idx ci j N q : Nat} {Cn : String} {T : u_T} {ty : Nat → FieldType} {v : Int32} (d : decode cc pc = .ok (.getfield idx, 3)) (pc' : Nat) (hp : pc + 3 = pc') (hv : gI σ q ci j = some v) (hc : xCls ci Cn T N ty) (hj : Nat.blt j N = true) (hl : Cond.fieldLink own idx Cn (T j).2.1 (T j).2.2.1 ∈ gt) (kk : V X k σ pc' lv (.int v :: st)) : V X k σ pc lv (.ref q :: st) := x_get C d pc' hp hc hj hl (gI_some hv) kk
theorem x_getL (C : Ok X cc nL own rm ret) {idx ci j N q : Nat} {Cn : String} {T : u_T} {ty : Nat → FieldType} {v : Int64} (d : decode cc pc = .ok (.getfield idx, 3)) (pc' : Nat) (hp : pc + 3 = pc') (hv : gL σ q ci j = some v) (hc : xCls ci Cn T N ty) (hj : Nat.blt j N = true) (hl : Cond.fieldLink own idx Cn (T j).2.1 (T j).2.2.1 ∈ gt) (kk : V X k σ pc' lv (.long v :: st)) : V X k σ pc lv (.ref q :: st) := x_get C d pc' hp hc hj hl (gL_some hv) kk
theorem x_getR (C : Ok X cc nL own rm ret) {idx ci j N q : Nat} {Cn : String} {T : u_T} {ty : Nat → FieldType} {v : Nat} (d : decode cc pc = .ok (.getfield idx, 3)) (pc' : Nat) (hp : pc + 3 = pc') (hv : gR σ q ci j = some v) (hc : xCls ci Cn T N ty) (hj : Nat.blt j N = true) (hl : Cond.fieldLink own idx Cn (T j).2.1 (T j).2.2.1 ∈ gt) (kk : V X k σ pc' lv (.ref v :: st)) : V X k σ pc lv (.ref q :: st) := x_get C d pc' hp hc hj hl (gR_some hv) kk
theorem x_putX (C : Ok X cc nL own rm ret) {idx ci j N q : Nat} {Cn : String} {T : u_T} {ty : Nat → FieldType} {v : Value} (d : decode cc pc = .ok (.putfield idx, 3)) (pc' : Nat) (hp : pc + 3 = pc') (hv : wrF σ q ci j v = some σ') (hc : xCls ci Cn T N ty) (hj : Nat.blt j N = true) (hl : Cond.fieldLink own idx Cn (T j).2.1 (T j).2.2.1 ∈ gt) (hfin : (T j).2.2.2 = false) (hn : narrow (ty j) v = v) (hfit : fits (ty j) v = true) (kk : V X k σ' pc' lv st) : V X k σ pc lv (v :: .ref q :: st) := x_put C d pc' hp hc hj hl hfin hn hfit hv kk
theorem x_mmin (C : Ok X cc nL own rm ret) {idx : Nat} {x y : Int32} (d : decode cc pc = .ok (.invokestatic idx, 3)) (pc' : Nat) (hp : pc + 3 = pc') (hl : Cond.methodLink own idx Lib.Math.min.name ∈ gt) (hw : Cond.static Lib.Math.min.name ∈ gt ∧ Cond.initialized "java/lang/Math" ∈ gt ∧ Cond.code Lib.Math.min.name Lib.Math.min.code 2 (some .int) ∈ gt) (hR : 1 ≤ rm.frames ∧ (st.map fun v => v.category).sum + 13 ≤ rm.locals) (hk : k.1 ≤ rm.cells ∧ k.2 ≤ rm.slots) (kk : V X k σ pc' lv (.int (imin x y) :: st)) : V X k σ pc lv (.int y :: .int x :: st) := by
  subst hp
  intro H locs ls hz hW hS hlv
  have hts := C.2.2.2.2.1
  have hRR := C.2.2.2.2.2.2.1
  exact va_mmin C.1 C.2.1 (by rw [C.2.2.1.1, hlv.1, C.2.2.1.2]) C.2.2.2.1 (hts _ hl) (hts _ hw.1) (hts _ hw.2.1) (hts _ hw.2.2) (by rw [hRR]; exact hR.1) (by rw [hRR]; exact hR.2) (by rw [hRR]; exact hk.1) (by rw [hRR]; exact hk.2) d (kk H locs ls hz hW hS hlv)
theorem x_mmax (C : Ok X cc nL own rm ret) {idx : Nat} {x y : Int32} (d : decode cc pc = .ok (.invokestatic idx, 3)) (pc' : Nat) (hp : pc + 3 = pc') (hl : Cond.methodLink own idx Lib.Math.max.name ∈ gt) (hw : Cond.static Lib.Math.max.name ∈ gt ∧ Cond.initialized "java/lang/Math" ∈ gt ∧ Cond.code Lib.Math.max.name Lib.Math.max.code 2 (some .int) ∈ gt) (hR : 1 ≤ rm.frames ∧ (st.map fun v => v.category).sum + 13 ≤ rm.locals) (hk : k.1 ≤ rm.cells ∧ k.2 ≤ rm.slots) (kk : V X k σ pc' lv (.int (imax x y) :: st)) : V X k σ pc lv (.int y :: .int x :: st) := by
  subst hp
  intro H locs ls hz hW hS hlv
  have hts := C.2.2.2.2.1
  have hRR := C.2.2.2.2.2.2.1
  exact va_mmax C.1 C.2.1 (by rw [C.2.2.1.1, hlv.1, C.2.2.1.2]) C.2.2.2.1 (hts _ hl) (hts _ hw.1) (hts _ hw.2.1) (hts _ hw.2.2) (by rw [hRR]; exact hR.1) (by rw [hRR]; exact hR.2) (by rw [hRR]; exact hk.1) (by rw [hRR]; exact hk.2) d (kk H locs ls hz hW hS hlv)
theorem x_callSi (C : Ok X cc nL own rm ret) {idx n na : Nat} {y : MethodName} {b : ByteArray} {r : Option FieldType} {rm' : Room} {as stk : List Value} {v : Int32} (d : decode cc pc = .ok (.invokestatic idx, 3)) (pc' : Nat) (hp : pc + 3 = pc') (hM : Con (xl X) y (xws y b n r) rm' as (xGd X) (xA X) σ (some (.int v)) σ') (hy : xCal y b n r na) (hst : Cond.static y ∈ gt) (hl : Cond.methodLink own idx y ∈ gt)
    (hrm : rm'.cells = 0 ∧ rm'.slots = 0) (hR : rm'.frames + 1 ≤ rm.frames ∧ 8 + (n + 11) + rm'.locals ≤ rm.locals) (hk : k.1 ≤ rm.cells ∧ k.2 ≤ rm.slots) (hna : as.length = na) (hstk : stk = as.reverse ++ st) (hcat : (st.map fun v => v.category).sum ≤ 8) (kk : V X k σ' pc' lv (.int v :: st)) : V X k σ pc lv stk := x_callS C d pc' hp hM hy hst hl hrm hR hk hna hstk hcat kk
theorem x_callSl (C : Ok X cc nL own rm ret) {idx n na : Nat} {y : MethodName} {b : ByteArray} {r : Option FieldType} {rm' : Room} {as stk : List Value} {v : Int64} (d : decode cc pc = .ok (.invokestatic idx, 3)) (pc' : Nat) (hp : pc + 3 = pc') (hM : Con (xl X) y (xws y b n r) rm' as (xGd X) (xA X) σ (some (.long v)) σ') (hy : xCal y b n r na) (hst : Cond.static y ∈ gt) (hl : Cond.methodLink own idx y ∈ gt)
    (hrm : rm'.cells = 0 ∧ rm'.slots = 0) (hR : rm'.frames + 1 ≤ rm.frames ∧ 8 + (n + 11) + rm'.locals ≤ rm.locals) (hk : k.1 ≤ rm.cells ∧ k.2 ≤ rm.slots) (hna : as.length = na) (hstk : stk = as.reverse ++ st) (hcat : (st.map fun v => v.category).sum ≤ 8) (kk : V X k σ' pc' lv (.long v :: st)) : V X k σ pc lv stk := x_callS C d pc' hp hM hy hst hl hrm hR hk hna hstk hcat kk
theorem x_callSv (C : Ok X cc nL own rm ret) {idx n na : Nat} {y : MethodName} {b : ByteArray} {r : Option FieldType} {rm' : Room} {as stk : List Value} (d : decode cc pc = .ok (.invokestatic idx, 3)) (pc' : Nat) (hp : pc + 3 = pc') (hM : Con (xl X) y (xws y b n r) rm' as (xGd X) (xA X) σ none σ') (hy : xCal y b n r na) (hst : Cond.static y ∈ gt) (hl : Cond.methodLink own idx y ∈ gt)
    (hrm : rm'.cells = 0 ∧ rm'.slots = 0) (hR : rm'.frames + 1 ≤ rm.frames ∧ 8 + (n + 11) + rm'.locals ≤ rm.locals) (hk : k.1 ≤ rm.cells ∧ k.2 ≤ rm.slots) (hna : as.length = na) (hstk : stk = as.reverse ++ st) (hcat : (st.map fun v => v.category).sum ≤ 8) (kk : V X k σ' pc' lv st) : V X k σ pc lv stk := x_callS C d pc' hp hM hy hst hl hrm hR hk hna hstk hcat kk
theorem x_callVi (C : Ok X cc nL own rm ret) {idx n na q ci N : Nat} {y : MethodName} {b : ByteArray} {r : Option FieldType} {rm' : Room} {as stk : List Value} {v : Int32} {Cn : String} {T : u_T} {u : Unit} (d : decode cc pc = .ok (.invokevirtual idx, 3)) (pc' : Nat) (hp : pc + 3 = pc') (ho : isO σ q ci = some u) (hci : x_cl[ci]? = some (Cn, T, N)) (hCn : Cn = y.cls) (hM : Con (xl X) y (xws y b n r) rm' (.ref q :: as) (xGd X) (xA X) σ (some (.int v)) σ') (hy : xCal y b n r na) (hst : Cond.instanceMethod y ∈ gt ∧ Cond.selects y.cls y y ∈ gt) (hl : Cond.methodLink own idx y ∈ gt)
    (hrm : rm'.cells = 0 ∧ rm'.slots = 0) (hR : rm'.frames + 1 ≤ rm.frames ∧ 8 + (n + 11) + rm'.locals ≤ rm.locals) (hk : k.1 ≤ rm.cells ∧ k.2 ≤ rm.slots) (hna : as.length = na) (hstk : stk = as.reverse ++ .ref q :: st) (hcat : (st.map fun v => v.category).sum ≤ 8) (kk : V X k σ' pc' lv (.int v :: st)) : V X k σ pc lv stk := x_callV C d pc' hp ho hci hCn hM hy hst hl hrm hR hk hna hstk hcat kk
theorem x_callVl (C : Ok X cc nL own rm ret) {idx n na q ci N : Nat} {y : MethodName} {b : ByteArray} {r : Option FieldType} {rm' : Room} {as stk : List Value} {v : Int64} {Cn : String} {T : u_T} {u : Unit} (d : decode cc pc = .ok (.invokevirtual idx, 3)) (pc' : Nat) (hp : pc + 3 = pc') (ho : isO σ q ci = some u) (hci : x_cl[ci]? = some (Cn, T, N)) (hCn : Cn = y.cls) (hM : Con (xl X) y (xws y b n r) rm' (.ref q :: as) (xGd X) (xA X) σ (some (.long v)) σ') (hy : xCal y b n r na) (hst : Cond.instanceMethod y ∈ gt ∧ Cond.selects y.cls y y ∈ gt) (hl : Cond.methodLink own idx y ∈ gt)
    (hrm : rm'.cells = 0 ∧ rm'.slots = 0) (hR : rm'.frames + 1 ≤ rm.frames ∧ 8 + (n + 11) + rm'.locals ≤ rm.locals) (hk : k.1 ≤ rm.cells ∧ k.2 ≤ rm.slots) (hna : as.length = na) (hstk : stk = as.reverse ++ .ref q :: st) (hcat : (st.map fun v => v.category).sum ≤ 8) (kk : V X k σ' pc' lv (.long v :: st)) : V X k σ pc lv stk := x_callV C d pc' hp ho hci hCn hM hy hst hl hrm hR hk hna hstk hcat kk
theorem x_callVv (C : Ok X cc nL own rm ret) {idx n na q ci N : Nat} {y : MethodName} {b : ByteArray} {r : Option FieldType} {rm' : Room} {as stk : List Value} {Cn : String} {T : u_T} {u : Unit} (d : decode cc pc = .ok (.invokevirtual idx, 3)) (pc' : Nat) (hp : pc + 3 = pc') (ho : isO σ q ci = some u) (hci : x_cl[ci]? = some (Cn, T, N)) (hCn : Cn = y.cls) (hM : Con (xl X) y (xws y b n r) rm' (.ref q :: as) (xGd X) (xA X) σ none σ') (hy : xCal y b n r na) (hst : Cond.instanceMethod y ∈ gt ∧ Cond.selects y.cls y y ∈ gt) (hl : Cond.methodLink own idx y ∈ gt)
    (hrm : rm'.cells = 0 ∧ rm'.slots = 0) (hR : rm'.frames + 1 ≤ rm.frames ∧ 8 + (n + 11) + rm'.locals ≤ rm.locals) (hk : k.1 ≤ rm.cells ∧ k.2 ≤ rm.slots) (hna : as.length = na) (hstk : stk = as.reverse ++ .ref q :: st) (hcat : (st.map fun v => v.category).sum ≤ 8) (kk : V X k σ' pc' lv st) : V X k σ pc lv stk := x_callV C d pc' hp ho hci hCn hM hy hst hl hrm hR hk hna hstk hcat kk
end XV
