/-! METHODS THAT READ STRING CONSTANTS: contract, rows -/
def ConS (l : Launch) (y : MethodName) (ws : List Cond) (rm : Room) (as : List Value) (adK adV : Nat → Nat) (G : xG) (A : Nat → Prop) (σ : St) (v : Option Value) (σ' : St) : Prop := Met l y ws rm (va_Pc as (xPreE adK adV G A σ)) (xPost v G A σ') 0 0 A
theorem s_start {l : Launch} {y : MethodName} {cc : ByteArray} {maxL : Nat} {ret : Option FieldType} {rm : Room} {as : List Value} {adK adV : Nat → Nat} {G : xG} {A : Nat → Prop} {σ σ' : St} {v : Option Value} (hy : plainName y.cls = true) (hlen : (lg_sl as).length ≤ maxL)
    (h : ∀ X : xX, xl X = l → xGd X = G → xA X = A → Ok X cc maxL y.cls rm ret → xEnv adK adV (xA X) (xs X) → xE1 X v σ' → V X (0, 0) σ 0 (lv_args 0 as) []) : ConS l y (xws y cc maxL ret) rm as adK adV G A σ v σ' := by
  refine Met.ofW (cc := cc) (maxL := maxL) (ret := ret) hy rfl ?_
  intro p e s m args below meth c s₁ B hml hv
  obtain ⟨rfl, ⟨hW, hK, hA⟩, hEv⟩ := hv
  have hts := atoms_spec (ws := xws y cc maxL ret) B.pre
  have hl := lv_entry as (n := maxL) hlen
  rw [lg_entry_eq]
  exact h (p, l, e, (headSpec (xws y cc maxL ret) rm).room, s, m, as.toArray, below, meth, c, maxL, A, G, MQ below (xPost v G A σ') as.toArray s 0 0 A) rfl rfl rfl ⟨B.exec, B.bytes, ⟨hml, rfl⟩, findClass_of_methodNamed B.named, fun w hw => hts w (List.mem_cons_of_mem _ hw), ⟨B.notSynchronized, B.returns⟩, rfl, hK, hA⟩ hEv rfl s.heap [] _ rfl hW va_S.rf hl
theorem s_startF {l : Launch} {y : MethodName} {cc : ByteArray} {maxL : Nat} {ret : Option FieldType} {rm : Room} {as : List Value} {adK adV : Nat → Nat} {G : xG} {A : Nat → Prop} {σ σ' : St} {v : Option Value} (hy : plainFor y = true) (hlen : (lg_sl as).length ≤ maxL)
    (h : ∀ X : xX, xl X = l → xGd X = G → xA X = A → Ok X cc maxL y.cls rm ret → xEnv adK adV (xA X) (xs X) → xE1 X v σ' → V X (0, 0) σ 0 (lv_args 0 as) []) : ConS l y (xws y cc maxL ret) rm as adK adV G A σ v σ' := by
  refine va_MetF (cc := cc) (maxL := maxL) (ret := ret) hy rfl ?_
  intro p e s m args below meth c s₁ B hml hv
  obtain ⟨rfl, ⟨hW, hK, hA⟩, hEv⟩ := hv
  have hts := atoms_spec (ws := xws y cc maxL ret) B.pre
  have hl := lv_entry as (n := maxL) hlen
  rw [lg_entry_eq]
  exact h (p, l, e, (headSpec (xws y cc maxL ret) rm).room, s, m, as.toArray, below, meth, c, maxL, A, G, MQ below (xPost v G A σ') as.toArray s 0 0 A) rfl rfl rfl ⟨B.exec, B.bytes, ⟨hml, rfl⟩, findClass_of_methodNamed B.named, fun w hw => hts w (List.mem_cons_of_mem _ hw), ⟨B.notSynchronized, B.returns⟩, rfl, hK, hA⟩ hEv rfl s.heap [] _ rfl hW va_S.rf hl
section XV
variable {X : xX} {adK adV : Nat → Nat} {k : Nat × Nat} {σ σ' : St} {pc : Nat} {lv : List (Nat × Value)} {st : List Value} {cc : ByteArray} {nL : Nat} {own : String} {rm : Room} {ret : Option FieldType}
theorem x_nret {ty : FieldType} (C : Ok X cc nL own rm (some ty)) {v : Int32} (hn : narrow ty (.int v) = .int v) (hE : xE1 X (some (.int v)) σ) (d : decode cc pc = .ok (.ireturn, 1)) : V X (0, 0) σ pc lv [.int v] := by
  intro H locs ls hz hW hS hlv
  rw [hE]
  exact W.zret C.1 C.2.1 C.2.2.2.2.2.1.2 hn (fun t ht hm => ⟨rfl, by rw [ht]; exact hW, by rw [ht]; exact hz, hS.F ht⟩) hS.2.2 d (hlocks := C.2.2.2.2.2.1.1)
theorem x_ldcS (C : Ok X cc nL own rm ret) (Ev : xEnv adK adV (xA X) (xs X)) {index i : Nat} {tx : String} (d : decode cc pc = .ok (.ldc index, 2)) (pc' : Nat) (hp : pc + 2 = pc') (hs : (own, index, tx, i) ∈ xStr) (kk : V X k σ pc' lv (.ref (adK i) :: st)) : V X k σ pc lv st := by
  subst hp
  exact fun H locs ls hz hW hS hl => va_ldcS C.1 C.2.1 C.2.2.2.1 (Ev.2.2.1 _ hs) d (kk H locs ls hz hW hS hl)
theorem x_ldcSW (C : Ok X cc nL own rm ret) (Ev : xEnv adK adV (xA X) (xs X)) {index i : Nat} {tx : String} (d : decode cc pc = .ok (.ldc_w index, 3)) (pc' : Nat) (hp : pc + 3 = pc') (hs : (own, index, tx, i) ∈ xStr) (kk : V X k σ pc' lv (.ref (adK i) :: st)) : V X k σ pc lv st := by
  subst hp
  intro H locs ls hz hW hS hl T hT XS
  obtain ⟨t, a1, b1⟩ := kk H locs ls hz hW hS hl T hT XS
  have hZ := Ev.2.2.1 _ hs
  exact ⟨t, XS.ldcStringW C.1 C.2.2.2.1 (text := tx) (a := adK i) hZ.1 hZ.2 (g := F0 (xm X) pc ls st) rfl (by rw [C.2.1]; exact d) t a1, b1⟩
theorem x_gets (C : Ok X cc nL own rm ret) (Ev : xEnv adK adV (xA X) (xs X)) {idx : Nat} (d : decode cc pc = .ok (.getstatic idx, 3)) (pc' : Nat) (hp : pc + 3 = pc') (hl : Cond.fieldLink own idx "java/lang/String" "COMPACT_STRINGS" "Z" ∈ gt) (kk : V X k σ pc' lv (.int 1 :: st)) : V X k σ pc lv st := by
  subst hp
  exact fun H locs ls hz hW hS hlv => va_gets C.1 C.2.1 Ev.2.2.2.2.2.1.1 hS C.2.2.2.1 (C.2.2.2.2.1 _ hl) (fun _ h => h) d (kk H locs ls hz hW hS hlv)
theorem x_getsq (C : Ok X cc nL own rm ret) (Ev : xEnv adK adV (xA X) (xs X)) {idx : Nat} (d : decode cc pc = .ok (.getstatic idx, 3)) (pc' : Nat) (hp : pc + 3 = pc') (hl : Cond.fieldLink own idx "jdk/internal/util/Preconditions" "SIOOBE_FORMATTER" "Ljava/util/function/BiFunction;" ∈ gt) (kn : V X k σ pc' lv (.null :: st)) (kr : ∀ t, V X k σ pc' lv (.ref t :: st)) : V X k σ pc lv st := by
  subst hp
  intro H locs ls hz hW hS hlv
  rcases Ev.2.2.2.2.2.1.2 with h | ⟨t, h⟩
  · exact va_gets C.1 C.2.1 h hS C.2.2.2.1 (C.2.2.2.2.1 _ hl) (fun _ h => h) d (kn H locs ls hz hW hS hlv)
  · exact va_gets C.1 C.2.1 h hS C.2.2.2.1 (C.2.2.2.2.1 _ hl) (fun _ h => h) d (kr t H locs ls hz hW hS hlv)
theorem x_strval (C : Ok X cc nL own rm ret) (Ev : xEnv adK adV (xA X) (xs X)) {idx i : Nat} (hi : i < 16) (d : decode cc pc = .ok (.getfield idx, 3)) (pc' : Nat) (hp : pc + 3 = pc') (hl : Cond.fieldLink own idx "java/lang/String" "value" "[B" ∈ gt) (kk : V X k σ pc' lv (.ref (adV i) :: st)) : V X k σ pc lv (.ref (adK i) :: st) := by
  subst hp
  exact fun H locs ls hz hW hS hlv => vk_getf C.1 C.2.1 (Ev.2.2.2.1.1 i hi).2.2.1 hS C.2.2.2.1 (C.2.2.2.2.1 _ hl) (fun _ h => h) d (kk H locs ls hz hW hS hlv)
theorem x_strcod (C : Ok X cc nL own rm ret) (Ev : xEnv adK adV (xA X) (xs X)) {idx i : Nat} (hi : i < 16) (d : decode cc pc = .ok (.getfield idx, 3)) (pc' : Nat) (hp : pc + 3 = pc') (hl : Cond.fieldLink own idx "java/lang/String" "coder" "B" ∈ gt) (kk : V X k σ pc' lv (.int 0 :: st)) : V X k σ pc lv (.ref (adK i) :: st) := by
  subst hp
  exact fun H locs ls hz hW hS hlv => vk_getf C.1 C.2.1 (Ev.2.2.2.1.1 i hi).2.1 hS C.2.2.2.1 (C.2.2.2.2.1 _ hl) (fun _ h => h) d (kk H locs ls hz hW hS hlv)
theorem x_strlen (C : Ok X cc nL own rm ret) (Ev : xEnv adK adV (xA X) (xs X)) {i : Nat} (hi : i < 16) (d : decode cc pc = .ok (.arraylength, 1)) (pc' : Nat) (hp : pc + 1 = pc') (kk : V X k σ pc' lv (.int (nI (xLen.getD i 0)) :: st)) : V X k σ pc lv (.ref (adV i) :: st) := by
  subst hp
  exact fun H locs ls hz hW hS hlv => va_tlen C.1 C.2.1 (Ev.2.2.2.1.1 i hi).2.2.2 hS rfl d (kk H locs ls hz hW hS hlv)
theorem x_strbyte (C : Ok X cc nL own rm ret) (Ev : xEnv adK adV (xA X) (xs X)) {i : Nat} {j : Int32} (hi : i < 16) (hj : vp_in j (xLen.getD i 0)) (d : decode cc pc = .ok (.baload, 1)) (pc' : Nat) (hp : pc + 1 = pc') (kk : V X k σ pc' lv (.int ((xByt.getD i []).getD j.toNatClampNeg 0) :: st)) : V X k σ pc lv (.int j :: .ref (adV i) :: st) := by
  subst hp
  exact fun H locs ls hz hW hS hlv => va_tb C.1 C.2.1 (Ev.2.2.2.1.1 i hi).2.2.2 hS hj rfl d (kk H locs ls hz hW hS hlv)
theorem x_pope (C : Ok X cc nL own rm ret) {a : Value} (d : decode cc pc = .ok (.pop, 1)) (pc' : Nat) (hp : pc + 1 = pc') (h : a.category = 1) (kk : V X k σ pc' lv st) : V X k σ pc lv (a :: st) := x_pop C d pc' hp h kk
theorem y_callS (C : Ok X cc nL own rm ret) (Ev : xEnv adK adV (xA X) (xs X)) {idx n na : Nat} {y : MethodName} {b : ByteArray} {r : Option FieldType} {rm' : Room} {as stk : List Value} {v : Option Value} (d : decode cc pc = .ok (.invokestatic idx, 3)) (pc' : Nat) (hp : pc + 3 = pc') (hM : ConS (xl X) y (xws y b n r) rm' as adK adV (xGd X) (xA X) σ v σ') (hy : xCal y b n r na) (hst : Cond.static y ∈ gt) (hl : Cond.methodLink own idx y ∈ gt)
    (hrm : rm'.cells = 0 ∧ rm'.slots = 0) (hR : rm'.frames + 1 ≤ rm.frames ∧ 8 + (n + 11) + rm'.locals ≤ rm.locals) (hk : k.1 ≤ rm.cells ∧ k.2 ≤ rm.slots) (hna : as.length = na) (hstk : stk = as.reverse ++ st) (hcat : (st.map fun v => v.category).sum ≤ 8) (st' : List Value) (hst' : v.toList ++ st = st') (kk : V X k σ' pc' lv st') : V X k σ pc lv stk := by
  subst hp; subst hstk; subst hst'
  intro H locs ls hz hW hS hlv
  have hts := C.2.2.2.2.1
  have hRR := C.2.2.2.2.2.2.1
  refine x_run (v := v) (σ' := σ') (as := as) (va_runS (As := as) (rest := st) ⟨C.1, C.2.1, C.2.2.1.1, C.2.2.2.1, hts⟩ hM ⟨callB_of na hts (good_xws hy.1) rfl hrm.1 hrm.2 (hts _ hy.2.1) (hts _ hl) hy.2.2 (by rw [hRR]; exact hR), hts _ hst⟩ ⟨x_blindE, x_preE C Ev hW hS⟩ rfl hna (by show ls.size = _; rw [hlv.1, C.2.2.1.2]) rfl (lv_room hcat) d (by rw [hRR]; exact hk)) hz hS hlv kk
theorem y_callK (C : Ok X cc nL own rm ret) (Ev : xEnv adK adV (xA X) (xs X)) {idx n na i : Nat} {y : MethodName} {b : ByteArray} {r : Option FieldType} {rm' : Room} {as stk : List Value} {v : Option Value} (hi : i < 16) (d : decode cc pc = .ok (.invokevirtual idx, 3)) (pc' : Nat) (hp : pc + 3 = pc') (hCn : y.cls = "java/lang/String") (hM : ConS (xl X) y (xws y b n r) rm' (.ref (adK i) :: as) adK adV (xGd X) (xA X) σ v σ') (hy : xCal y b n r na) (hst : Cond.instanceMethod y ∈ gt ∧ Cond.selects y.cls y y ∈ gt) (hl : Cond.methodLink own idx y ∈ gt)
    (hrm : rm'.cells = 0 ∧ rm'.slots = 0) (hR : rm'.frames + 1 ≤ rm.frames ∧ 8 + (n + 11) + rm'.locals ≤ rm.locals) (hk : k.1 ≤ rm.cells ∧ k.2 ≤ rm.slots) (hna : as.length = na) (hstk : stk = as.reverse ++ .ref (adK i) :: st) (hcat : (st.map fun v => v.category).sum ≤ 8) (st' : List Value) (hst' : v.toList ++ st = st') (kk : V X k σ' pc' lv st') : V X k σ pc lv stk := by
  subst hp; subst hstk; subst hst'
  intro H locs ls hz hW hS hlv
  have hts := C.2.2.2.2.1
  have hRR := C.2.2.2.2.2.2.1
  refine x_run (v := v) (σ' := σ') (as := .ref (adK i) :: as) (va_runV (C := y.cls) (As := as) (rest := st) ⟨C.1, C.2.1, C.2.2.1.1, C.2.2.2.1, hts⟩ hM ⟨callB_of na hts (good_xws hy.1) rfl hrm.1 hrm.2 (hts _ hy.2.1) (hts _ hl) hy.2.2 (by rw [hRR]; exact hR), hts _ hst.1, hts _ hst.2⟩ ⟨x_blindE, by rw [hCn]; exact vk_recv Ev.2.2.2.1 hi hS, x_preE C Ev hW hS⟩ rfl hna (by show ls.size = _; rw [hlv.1, C.2.2.1.2]) rfl (lv_room hcat) d (by rw [hRR]; exact hk)) hz hS hlv kk
theorem y_callV (C : Ok X cc nL own rm ret) (Ev : xEnv adK adV (xA X) (xs X)) {idx n na q ci N : Nat} {y : MethodName} {b : ByteArray} {r : Option FieldType} {rm' : Room} {as stk : List Value} {v : Option Value} {Cn : String} {T : u_T} {u : Unit} (d : decode cc pc = .ok (.invokevirtual idx, 3)) (pc' : Nat) (hp : pc + 3 = pc') (ho : isO σ q ci = some u) (hci : x_cl[ci]? = some (Cn, T, N)) (hCn : Cn = y.cls) (hM : ConS (xl X) y (xws y b n r) rm' (.ref q :: as) adK adV (xGd X) (xA X) σ v σ') (hy : xCal y b n r na) (hst : Cond.instanceMethod y ∈ gt ∧ Cond.selects y.cls y y ∈ gt) (hl : Cond.methodLink own idx y ∈ gt)
    (hrm : rm'.cells = 0 ∧ rm'.slots = 0) (hR : rm'.frames + 1 ≤ rm.frames ∧ 8 + (n + 11) + rm'.locals ≤ rm.locals) (hk : k.1 ≤ rm.cells ∧ k.2 ≤ rm.slots) (hna : as.length = na) (hstk : stk = as.reverse ++ .ref q :: st) (hcat : (st.map fun v => v.category).sum ≤ 8) (st' : List Value) (hst' : v.toList ++ st = st') (kk : V X k σ' pc' lv st') : V X k σ pc lv stk := by
  subst hp; subst hstk; subst hCn; subst hst'
  intro H locs ls hz hW hS hlv
  have hts := C.2.2.2.2.1
  have hRR := C.2.2.2.2.2.2.1
  obtain ⟨fs, h1⟩ := isO_some ho
  obtain ⟨ws, hP, hD, hw⟩ := id hW
  obtain ⟨i0, hi⟩ := hw q _ h1
  refine x_run (v := v) (σ' := σ') (as := .ref q :: as) (va_runV (C := y.cls) (As := as) (rest := st) ⟨C.1, C.2.1, C.2.2.1.1, C.2.2.2.1, hts⟩ hM ⟨callB_of na hts (good_xws hy.1) rfl hrm.1 hrm.2 (hts _ hy.2.1) (hts _ hl) hy.2.2 (by rw [hRR]; exact hR), hts _ hst.1, hts _ hst.2⟩ ⟨x_blindE, va_recv C.2.2.2.2.2.2.2.1 hP hci hi, x_preE C Ev hW hS⟩ rfl hna (by show ls.size = _; rw [hlv.1, C.2.2.1.2]) rfl (lv_room hcat) d (by rw [hRR]; exact hk)) hz hS hlv kk
theorem zy_callV (C : Ok X cc nL own rm ret) (Ev : xEnv adK adV (xA X) (xs X)) {idx n na q ci N : Nat} {y : MethodName} {b : ByteArray} {r : Option FieldType} {rm' : Room} {as stk : List Value} {v : Option Value} {Cn : String} {T : u_T} {u : Unit} (d : decode cc pc = .ok (.invokevirtual idx, 3)) (pc' : Nat) (hp : pc + 3 = pc') (ho : isO σ q ci = some u) (hci : x_cl[ci]? = some (Cn, T, N)) (hCn : Cn = y.cls) (hM : ConS (xl X) y (xws y b n r) rm' (.ref q :: as) adK adV (xGd X) (xA X) σ v σ') (hy : xCal y b n r na) (hst : Cond.instanceMethod y ∈ gt ∧ Cond.selects y.cls y y ∈ gt) (hl : Cond.methodLink own idx y ∈ gt)
    (hrm : rm'.cells = 0 ∧ rm'.slots = 0) (hR : rm'.frames + 1 ≤ rm.frames ∧ 8 + (n + 11) + rm'.locals ≤ rm.locals) (hk : k.1 ≤ rm.cells ∧ k.2 ≤ rm.slots) (hna : as.length = na) (hstk : stk = as.reverse ++ .ref q :: st) (hcat : (st.map fun v => v.category).sum ≤ 8) (st' : List Value) (hst' : v.toList ++ st = st') (kk : Vz X k σ' pc' lv st') : Vz X k σ pc lv stk := by
  subst hp; subst hstk; subst hCn; subst hst'
  intro H locs ls hW hS hlv
  have hts := C.2.2.2.2.1
  have hRR := C.2.2.2.2.2.2.1
  obtain ⟨fs, h1⟩ := isO_some ho
  obtain ⟨ws, hP, hD, hw⟩ := id hW
  obtain ⟨i0, hi⟩ := hw q _ h1
  refine z_run (v := v) (σ' := σ') (as := .ref q :: as) (va_runV (C := y.cls) (As := as) (rest := st) ⟨C.1, C.2.1, C.2.2.1.1, C.2.2.2.1, hts⟩ hM ⟨callB_of na hts (good_xws hy.1) rfl hrm.1 hrm.2 (hts _ hy.2.1) (hts _ hl) hy.2.2 (by rw [hRR]; exact hR), hts _ hst.1, hts _ hst.2⟩ ⟨x_blindE, va_recv C.2.2.2.2.2.2.2.1 hP hci hi, x_preE C Ev hW hS⟩ rfl hna (by show ls.size = _; rw [hlv.1, C.2.2.1.2]) rfl (lv_room hcat) d (by rw [hRR]; exact hk)) hS hlv kk
end XV
def slen (i : Nat) : Option Int32 := if i < 16 then some (nI (xLen.getD i 0)) else none
def sch (i : Nat) (j : Int32) : Option Int32 := if i < 16 ∧ ¬ (j < 0 ∨ xLen.getD i 0 ≤ j.toNatClampNeg) then some ((xByt.getD i []).getD j.toNatClampNeg 0) else none
theorem xLen_small : ∀ i, i < 16 → xLen.getD i 0 < 100 := by decide +kernel
theorem xByt_char : ∀ i, i < 16 → ∀ j, j < 40 → ((((xByt.getD i []).getD j 0) &&& 255).toUInt32 % 65536).toInt32 = (xByt.getD i []).getD j 0 ∧ narrow .char (.int ((xByt.getD i []).getD j 0)) = .int ((xByt.getD i []).getD j 0) := by decide +kernel
theorem xLen_40 : ∀ i, i < 16 → xLen.getD i 0 < 40 := by decide +kernel
