/-! THE LAYER, its rows of the heap, of calls and of returns -/
def rdF (σ : St) (q ci j : Nat) : Option Value := match σ q with
  | some (.inr o) => if o.1 = ci then o.2[j]? else none
  | _ => none
def wrF (σ : St) (q ci j : Nat) (v : Value) : Option St := match σ q with
  | some (.inr o) => if o.1 = ci ∧ j < o.2.length then some (xu σ q (.inr (ci, o.2.set j v))) else none
  | _ => none
def isO (σ : St) (q ci : Nat) : Option Unit := match σ q with
  | some (.inr o) => if o.1 = ci then some () else none
  | _ => none
def gI (σ : St) (q ci j : Nat) : Option Int32 := match rdF σ q ci j with
  | some (.int v) => some v
  | _ => none
def gL (σ : St) (q ci j : Nat) : Option Int64 := match rdF σ q ci j with
  | some (.long v) => some v
  | _ => none
def gR (σ : St) (q ci j : Nat) : Option Nat := match rdF σ q ci j with
  | some (.ref v) => some v
  | _ => none
def arI (σ : St) (q kd : Nat) : Option (Nat × (Nat → Int32)) := match σ q with
  | some (.inl (t, n, .inl f)) => if t = kd then some (n, f) else none
  | _ => none
def arL (σ : St) (q : Nat) : Option (Nat × (Nat → Int64)) := match σ q with
  | some (.inl (t, n, .inr (.inl f))) => if t = 1 then some (n, f) else none
  | _ => none
def arR (σ : St) (q : Nat) : Option (Nat × (Nat → Option Nat)) := match σ q with
  | some (.inl (t, n, .inr (.inr (.inr (.inr f))))) => if t = 3 then some (n, f) else none
  | _ => none
/-- reading an int (kd 0) or a byte (kd 2) of an array -/
def aI (σ : St) (q kd : Nat) (i : Int32) : Option Int32 := (arI σ q kd).bind fun a => if i < 0 ∨ a.1 ≤ i.toNatClampNeg then none else some (a.2 i.toNatClampNeg)
def aL (σ : St) (q : Nat) (i : Int32) : Option Int64 := (arL σ q).bind fun a => if i < 0 ∨ a.1 ≤ i.toNatClampNeg then none else some (a.2 i.toNatClampNeg)
def aR (σ : St) (q : Nat) (i : Int32) : Option Nat := (arR σ q).bind fun a => if i < 0 ∨ a.1 ≤ i.toNatClampNeg then none else a.2 i.toNatClampNeg
def sI (σ : St) (q : Nat) (i v : Int32) : Option St := (arI σ q 0).bind fun a => if i < 0 ∨ a.1 ≤ i.toNatClampNeg then none else some (xu σ q (.inl (0, a.1, .inl (upd a.2 i.toNatClampNeg v))))
def sB (σ : St) (q : Nat) (i v : Int32) : Option St := (arI σ q 2).bind fun a => if i < 0 ∨ a.1 ≤ i.toNatClampNeg then none else some (xu σ q (.inl (2, a.1, .inl (upd a.2 i.toNatClampNeg (vp_nar .byte v)))))
def sL (σ : St) (q : Nat) (i : Int32) (v : Int64) : Option St := (arL σ q).bind fun a => if i < 0 ∨ a.1 ≤ i.toNatClampNeg then none else some (xu σ q (.inl (1, a.1, .inr (.inl (vp_updL a.2 i.toNatClampNeg v)))))
def alen (σ : St) (q : Nat) : Option Int32 := match σ q with
  | some (.inl a) => if a.1 < 4 then some (Int32.ofNat a.2.1) else none
  | _ => none
/-- System.arraycopy of ints, of longs -/
def acI (σ : St) (a0 : Nat) (sp : Int32) (a : Nat) (dp n : Int32) : Option St := (arI σ a0 0).bind fun f => (arI σ a 0).bind fun g => if sp < 0 ∨ dp < 0 ∨ n < 0 ∨ f.1 < sp.toNatClampNeg + n.toNatClampNeg ∨ g.1 < dp.toNatClampNeg + n.toNatClampNeg then none else some (xu σ a (.inl (0, g.1, .inl (va_cpy f.2 g.2 sp.toNatClampNeg dp.toNatClampNeg n.toNatClampNeg))))
def acL (σ : St) (a0 : Nat) (sp : Int32) (a : Nat) (dp n : Int32) : Option St := (arL σ a0).bind fun f => (arL σ a).bind fun g => if sp < 0 ∨ dp < 0 ∨ n < 0 ∨ f.1 < sp.toNatClampNeg + n.toNatClampNeg ∨ g.1 < dp.toNatClampNeg + n.toNatClampNeg then none else some (xu σ a (.inl (1, g.1, .inr (.inl (va_cpy f.2 g.2 sp.toNatClampNeg dp.toNatClampNeg n.toNatClampNeg)))))
/-- a boolean answer -/
def zok (v : Int32) : Option Int32 := if v = 0 ∨ v = 1 then some v else none
theorem zok_nar {v w : Int32} (h : zok v = some w) : v = w ∧ narrow .boolean (.int v) = .int v := by
  unfold zok at h
  split at h
  · rename_i hz
    refine ⟨Option.some.inj h, ?_⟩
    rcases hz with rfl | rfl <;> rfl
  · cases h
theorem rdF_some {σ : St} {q ci j : Nat} {v : Value} (h : rdF σ q ci j = some v) : ∃ fs, σ q = some (.inr (ci, fs)) ∧ fs[j]? = some v := by
  unfold rdF at h
  split at h
  · rename_i o ho
    split at h
    · rename_i hc
      obtain ⟨c, fs⟩ := o
      cases hc
      exact ⟨fs, ho, h⟩
    · cases h
  · cases h
theorem wrF_some {σ σ' : St} {q ci j : Nat} {v : Value} (h : wrF σ q ci j v = some σ') : ∃ fs, σ q = some (.inr (ci, fs)) ∧ j < fs.length ∧ σ' = xu σ q (.inr (ci, fs.set j v)) := by
  unfold wrF at h
  split at h
  · rename_i o ho
    split at h
    · rename_i hc
      obtain ⟨c, fs⟩ := o
      obtain ⟨rfl, hl⟩ := hc
      exact ⟨fs, ho, hl, (Option.some.inj h).symm⟩
    · cases h
  · cases h
theorem isO_some {σ : St} {q ci : Nat} {u : Unit} (h : isO σ q ci = some u) : ∃ fs, σ q = some (.inr (ci, fs)) := by
  unfold isO at h
  split at h
  · rename_i o ho
    split at h
    · rename_i hc
      obtain ⟨c, fs⟩ := o
      cases hc
      exact ⟨fs, ho⟩
    · cases h
  · cases h
theorem gI_some {σ : St} {q ci j : Nat} {v : Int32} (h : gI σ q ci j = some v) : rdF σ q ci j = some (.int v) := by
  unfold gI at h
  split at h
  · rename_i w hw
    rw [hw, Option.some.inj h]
  · cases h
theorem gL_some {σ : St} {q ci j : Nat} {v : Int64} (h : gL σ q ci j = some v) : rdF σ q ci j = some (.long v) := by
  unfold gL at h
  split at h
  · rename_i w hw
    rw [hw, Option.some.inj h]
  · cases h
theorem gR_some {σ : St} {q ci j : Nat} {v : Nat} (h : gR σ q ci j = some v) : rdF σ q ci j = some (.ref v) := by
  unfold gR at h
  split at h
  · rename_i w hw
    rw [hw, Option.some.inj h]
  · cases h
theorem arI_some {σ : St} {q kd n : Nat} {f : Nat → Int32} (h : arI σ q kd = some (n, f)) : σ q = some (.inl (kd, n, .inl f)) := by
  unfold arI at h
  split at h
  · rename_i t n' f' ho
    split at h
    · rename_i hc
      cases hc
      cases h
      exact ho
    · cases h
  · cases h
theorem arL_some {σ : St} {q n : Nat} {f : Nat → Int64} (h : arL σ q = some (n, f)) : σ q = some (.inl (1, n, .inr (.inl f))) := by
  unfold arL at h
  split at h
  · rename_i t n' f' ho
    split at h
    · rename_i hc
      cases hc
      cases h
      exact ho
    · cases h
  · cases h
theorem arR_some {σ : St} {q n : Nat} {f : Nat → Option Nat} (h : arR σ q = some (n, f)) : σ q = some (.inl (3, n, .inr (.inr (.inr (.inr f))))) := by
  unfold arR at h
  split at h
  · rename_i t n' f' ho
    split at h
    · rename_i hc
      cases hc
      cases h
      exact ho
    · cases h
  · cases h
theorem x_bind {α β : Type} {o : Option α} {f : α → Option β} {r : β} (h : o.bind f = some r) : ∃ v, o = some v ∧ f v = some r := Option.bind_eq_some_iff.mp h
theorem aI_some {σ : St} {q kd : Nat} {i v : Int32} (h : aI σ q kd i = some v) : ∃ (n : Nat) (f : Nat → Int32), σ q = some (.inl (kd, n, .inl f)) ∧ vp_in i n ∧ f i.toNatClampNeg = v := by
  obtain ⟨⟨n, f⟩, h1, h2⟩ := x_bind h
  split at h2
  · cases h2
  · rename_i hi
    exact ⟨n, f, arI_some h1, hi, Option.some.inj h2⟩
theorem aL_some {σ : St} {q : Nat} {i : Int32} {v : Int64} (h : aL σ q i = some v) : ∃ (n : Nat) (f : Nat → Int64), σ q = some (.inl (1, n, .inr (.inl f))) ∧ vp_in i n ∧ f i.toNatClampNeg = v := by
  obtain ⟨⟨n, f⟩, h1, h2⟩ := x_bind h
  split at h2
  · cases h2
  · rename_i hi
    exact ⟨n, f, arL_some h1, hi, Option.some.inj h2⟩
theorem aR_some {σ : St} {q : Nat} {i : Int32} {v : Nat} (h : aR σ q i = some v) : ∃ (n : Nat) (f : Nat → Option Nat), σ q = some (.inl (3, n, .inr (.inr (.inr (.inr f))))) ∧ vp_in i n ∧ f i.toNatClampNeg = some v := by
  obtain ⟨⟨n, f⟩, h1, h2⟩ := x_bind h
  split at h2
  · cases h2
  · rename_i hi
    exact ⟨n, f, arR_some h1, hi, h2⟩
theorem sI_some {σ σ' : St} {q : Nat} {i v : Int32} (h : sI σ q i v = some σ') : ∃ (n : Nat) (f : Nat → Int32), σ q = some (.inl (0, n, .inl f)) ∧ vp_in i n ∧ σ' = xu σ q (.inl (0, n, .inl (upd f i.toNatClampNeg v))) := by
  obtain ⟨⟨n, f⟩, h1, h2⟩ := x_bind h
  split at h2
  · cases h2
  · rename_i hi
    exact ⟨n, f, arI_some h1, hi, (Option.some.inj h2).symm⟩
theorem sB_some {σ σ' : St} {q : Nat} {i v : Int32} (h : sB σ q i v = some σ') : ∃ (n : Nat) (f : Nat → Int32), σ q = some (.inl (2, n, .inl f)) ∧ vp_in i n ∧ σ' = xu σ q (.inl (2, n, .inl (upd f i.toNatClampNeg (vp_nar .byte v)))) := by
  obtain ⟨⟨n, f⟩, h1, h2⟩ := x_bind h
  split at h2
  · cases h2
  · rename_i hi
    exact ⟨n, f, arI_some h1, hi, (Option.some.inj h2).symm⟩
theorem sL_some {σ σ' : St} {q : Nat} {i : Int32} {v : Int64} (h : sL σ q i v = some σ') : ∃ (n : Nat) (f : Nat → Int64), σ q = some (.inl (1, n, .inr (.inl f))) ∧ vp_in i n ∧ σ' = xu σ q (.inl (1, n, .inr (.inl (vp_updL f i.toNatClampNeg v)))) := by
  obtain ⟨⟨n, f⟩, h1, h2⟩ := x_bind h
  split at h2
  · cases h2
  · rename_i hi
    exact ⟨n, f, arL_some h1, hi, (Option.some.inj h2).symm⟩
theorem alen_some {σ : St} {q : Nat} {v : Int32} (h : alen σ q = some v) : ∃ a : Nat × vp_A, σ q = some (.inl a) ∧ a.1 < 4 ∧ Int32.ofNat a.2.1 = v := by
  unfold alen at h
  split at h
  · rename_i a ho
    split at h
    · rename_i hc
      exact ⟨a, ho, hc, Option.some.inj h⟩
    · cases h
  · cases h
/-- what is known of a class's fields -/
def xCls (ci : Nat) (Cn : String) (T : u_T) (N : Nat) (ty : Nat → FieldType) : Prop :=
  x_cl[ci]? = some (Cn, T, N) ∧ (∀ w ∈ u_ws Cn T N, w ∈ gt) ∧ (∀ j, j < N → parseFieldDescriptor (T j).2.2.1 = some (ty j)) ∧ (∀ a, a < N → ∀ b, b < N → a ≠ b → (T a).2.1 ≠ (T b).2.1) ∧ ∀ j, j < N → (T j).1 = Cn
def xCal (y : MethodName) (b : ByteArray) (n : Nat) (r : Option FieldType) (na : Nat) : Prop :=
  Cond.code y b n r ∈ gt ∧ Cond.initialized y.cls ∈ gt ∧ (y.cls ≠ "java/lang/invoke/MethodHandle" ∧ y.cls ≠ "java/lang/invoke/VarHandle" ∧ (parseMethodDescriptor y.desc).map (fun d => d.parameters.length) = some na)
theorem good_xws {y : MethodName} {b : ByteArray} {n : Nat} {r : Option FieldType} (h : Cond.code y b n r ∈ gt) : GoodIn gt (xws y b n r) := by
  intro w hw
  rcases List.mem_cons.mp hw with rfl | hw
  · exact ⟨h, gt_good h⟩
  · exact ⟨hw, gt_good hw⟩
section XV
variable {X : xX} {k : Nat × Nat} {σ σ' : St} {pc : Nat} {lv : List (Nat × Value)} {st : List Value} {cc : ByteArray} {nL : Nat} {own : String} {rm : Room} {ret : Option FieldType}
theorem x_sz {p : Program} {l : Launch} {e : Env} {R : Room} {s : State} {m : MethodId} {args : Array Value} {below : List Frame} {meth : Method} {c : Code} {H : Heap} {locs : List Loc} {cells slots : Nat} {Q : State → Prop} {g : JFrame}
    (h : H.size ≤ s.heap.size + cells → W p l e R s m args below meth c H locs cells slots Q g) : W p l e R s m args below meth c H locs cells slots Q g := by
  intro T hT XS
  refine h ?_ T hT XS
  rw [← hT]
  exact XS.same.2.2.1
theorem x_after {H H1 : Heap} {locs locs1 : List Loc} {ls : Array Slot} (kk : V X k σ' pc lv st) (hz : H.size = (xs X).heap.size + k.1) (hS : va_S (xA X) (xs X).heap H locs) (hS' : va_S (xA X) H H1 locs1) (hW : Wd (xGd X) (xA X) σ' H1) (hl : lv_has ls (xn X) lv) :
    W (xp X) (xl X) (xe X) (xR X) (xs X) (xm X) (xa X) (xb X) (xh X) (xc X) H1 locs1 k.1 k.2 (xQ X) (F0 (xm X) pc ls st) := by
  refine x_sz (fun hle => ?_)
  have h1 := hS'.1
  refine kk H1 locs1 ls (by omega) hW ⟨Nat.le_trans hS.1 h1, fun q a b => (hS'.2.1 q (Nat.lt_of_lt_of_le a hS.1) b).trans (hS.2.1 q a b), hS'.2.2⟩ hl
theorem x_self {A : Nat → Prop} {H0 H : Heap} {locs : List Loc} (hS : va_S A H0 H locs) : va_S A H H locs := ⟨Nat.le_refl _, fun _ _ _ => rfl, hS.2.2⟩
theorem x_get (C : Ok X cc nL own rm ret) {idx ci j N q : Nat} {Cn : String} {T : u_T} {ty : Nat → FieldType} {v : Value} (d : decode cc pc = .ok (.getfield idx, 3)) (pc' : Nat) (hp : pc + 3 = pc') (hc : xCls ci Cn T N ty) (hj : Nat.blt j N = true) (hl : Cond.fieldLink own idx Cn (T j).2.1 (T j).2.2.1 ∈ gt) (hv : rdF σ q ci j = some v) (kk : V X k σ pc' lv (v :: st)) : V X k σ pc lv (.ref q :: st) := by
  subst hp
  intro H locs ls hz hW hS hlv
  obtain ⟨fs, h1, h2⟩ := rdF_some hv
  obtain ⟨ws, hP, hD, hw⟩ := id hW
  obtain ⟨i, hi⟩ := hw q _ h1
  have hjN : j < N := Nat.le_of_ble_eq_true hj
  exact va_get C.1 C.2.1 C.2.2.2.2.1 hc.2.1 C.2.2.2.1 C.2.2.2.2.2.2.2.1 hP i hi hc.1 j hjN (C.2.2.2.2.1 _ hl) (fun x h => by rw [hc.2.2.2.2 j hjN] at h; exact h) h2 d (kk H locs ls hz hW hS hlv)
theorem x_put (C : Ok X cc nL own rm ret) {idx ci j N q : Nat} {Cn : String} {T : u_T} {ty : Nat → FieldType} {v : Value} (d : decode cc pc = .ok (.putfield idx, 3)) (pc' : Nat) (hp : pc + 3 = pc') (hc : xCls ci Cn T N ty) (hj : Nat.blt j N = true) (hl : Cond.fieldLink own idx Cn (T j).2.1 (T j).2.2.1 ∈ gt) (hfin : (T j).2.2.2 = false) (hn : narrow (ty j) v = v) (hfit : fits (ty j) v = true) (hv : wrF σ q ci j v = some σ') (kk : V X k σ' pc' lv st) : V X k σ pc lv (v :: .ref q :: st) := by
  subst hp
  intro H locs ls hz hW hS hlv
  obtain ⟨fs, h1, h2, rfl⟩ := wrF_some hv
  obtain ⟨ws, hP, hD, hw⟩ := id hW
  obtain ⟨i, hi⟩ := hw q _ h1
  have hjN : j < N := Nat.le_of_ble_eq_true hj
  exact va_put C.1 C.2.1 C.2.2.2.2.1 hc.2.1 ty hc.2.2.1 hc.2.2.2.1 C.2.2.2.1 C.2.2.2.2.2.2.2.1 hP hD (x_self hS) i hi hc.1 j hjN (C.2.2.2.2.1 _ hl) (fun x h => by rw [hc.2.2.2.2 j hjN] at h; exact h) hfin (hc.2.2.1 j hjN) hn hfit h2 d
    (fun H1 locs1 hP1 hD1 hS1 => x_after kk hz hS hS1 (Wd_set (e' := .inr (ci, fs.set j v)) hw hD hi hP1 hD1) hlv)
theorem x_iaload (C : Ok X cc nL own rm ret) {q : Nat} {i v : Int32} (d : decode cc pc = .ok (.iaload, 1)) (pc' : Nat) (hp : pc + 1 = pc') (hv : aI σ q 0 i = some v) (kk : V X k σ pc' lv (.int v :: st)) : V X k σ pc lv (.int i :: .ref q :: st) := by
  subst hp
  intro H locs ls hz hW hS hlv
  obtain ⟨n, f, h1, h2, rfl⟩ := aI_some hv
  obtain ⟨ws, hP, hD, hw⟩ := id hW
  obtain ⟨i0, hi⟩ := hw q _ h1
  exact va_iald C.1 C.2.1 C.2.2.2.2.2.2.2.1 hP i0 0 hi rfl h2 d (kk H locs ls hz hW hS hlv)
theorem x_baload (C : Ok X cc nL own rm ret) {q : Nat} {i v : Int32} (d : decode cc pc = .ok (.baload, 1)) (pc' : Nat) (hp : pc + 1 = pc') (hv : aI σ q 2 i = some v) (kk : V X k σ pc' lv (.int v :: st)) : V X k σ pc lv (.int i :: .ref q :: st) := by
  subst hp
  intro H locs ls hz hW hS hlv
  obtain ⟨n, f, h1, h2, rfl⟩ := aI_some hv
  obtain ⟨ws, hP, hD, hw⟩ := id hW
  obtain ⟨i0, hi⟩ := hw q _ h1
  exact va_bald C.1 C.2.1 C.2.2.2.2.2.2.2.1 hP i0 2 hi rfl h2 d (kk H locs ls hz hW hS hlv)
theorem x_laload (C : Ok X cc nL own rm ret) {q : Nat} {i : Int32} {v : Int64} (d : decode cc pc = .ok (.laload, 1)) (pc' : Nat) (hp : pc + 1 = pc') (hv : aL σ q i = some v) (kk : V X k σ pc' lv (.long v :: st)) : V X k σ pc lv (.int i :: .ref q :: st) := by
  subst hp
  intro H locs ls hz hW hS hlv
  obtain ⟨n, f, h1, h2, rfl⟩ := aL_some hv
  obtain ⟨ws, hP, hD, hw⟩ := id hW
  obtain ⟨i0, hi⟩ := hw q _ h1
  exact va_lald C.1 C.2.1 C.2.2.2.2.2.2.2.1 hP i0 1 hi rfl h2 d (kk H locs ls hz hW hS hlv)
theorem x_aaload (C : Ok X cc nL own rm ret) {q : Nat} {i : Int32} {v : Nat} (d : decode cc pc = .ok (.aaload, 1)) (pc' : Nat) (hp : pc + 1 = pc') (hv : aR σ q i = some v) (kk : V X k σ pc' lv (.ref v :: st)) : V X k σ pc lv (.int i :: .ref q :: st) := by
  subst hp
  intro H locs ls hz hW hS hlv
  obtain ⟨n, f, h1, h2, h3⟩ := aR_some hv
  obtain ⟨ws, hP, hD, hw⟩ := id hW
  obtain ⟨i0, hi⟩ := hw q _ h1
  refine va_aldq C.1 C.2.1 C.2.2.2.2.2.2.2.1 hP i0 3 hi rfl h2 d ?_
  rw [h3]
  exact kk H locs ls hz hW hS hlv
theorem x_iastore (C : Ok X cc nL own rm ret) {q : Nat} {i v : Int32} (d : decode cc pc = .ok (.iastore, 1)) (pc' : Nat) (hp : pc + 1 = pc') (hv : sI σ q i v = some σ') (kk : V X k σ' pc' lv st) : V X k σ pc lv (.int v :: .int i :: .ref q :: st) := by
  subst hp
  intro H locs ls hz hW hS hlv
  obtain ⟨n, f, h1, h2, rfl⟩ := sI_some hv
  obtain ⟨ws, hP, hD, hw⟩ := id hW
  obtain ⟨i0, hi⟩ := hw q _ h1
  exact va_iast C.1 C.2.1 C.2.2.2.2.2.2.2.1 hP hD (x_self hS) i0 0 hi rfl h2 d (fun H1 locs1 hP1 hD1 hS1 => x_after kk hz hS hS1 (Wd_set (e' := .inl (0, n, .inl (upd f i.toNatClampNeg v))) hw hD hi hP1 hD1) hlv)
theorem x_bastore (C : Ok X cc nL own rm ret) {q : Nat} {i v : Int32} (d : decode cc pc = .ok (.bastore, 1)) (pc' : Nat) (hp : pc + 1 = pc') (hv : sB σ q i v = some σ') (kk : V X k σ' pc' lv st) : V X k σ pc lv (.int v :: .int i :: .ref q :: st) := by
  subst hp
  intro H locs ls hz hW hS hlv
  obtain ⟨n, f, h1, h2, rfl⟩ := sB_some hv
  obtain ⟨ws, hP, hD, hw⟩ := id hW
  obtain ⟨i0, hi⟩ := hw q _ h1
  exact va_bast C.1 C.2.1 C.2.2.2.2.2.2.2.1 hP hD (x_self hS) i0 2 hi rfl h2 d (fun H1 locs1 hP1 hD1 hS1 => x_after kk hz hS hS1 (Wd_set (e' := .inl (2, n, .inl (upd f i.toNatClampNeg (vp_nar .byte v)))) hw hD hi hP1 hD1) hlv)
theorem x_lastore (C : Ok X cc nL own rm ret) {q : Nat} {i : Int32} {v : Int64} (d : decode cc pc = .ok (.lastore, 1)) (pc' : Nat) (hp : pc + 1 = pc') (hv : sL σ q i v = some σ') (kk : V X k σ' pc' lv st) : V X k σ pc lv (.long v :: .int i :: .ref q :: st) := by
  subst hp
  intro H locs ls hz hW hS hlv
  obtain ⟨n, f, h1, h2, rfl⟩ := sL_some hv
  obtain ⟨ws, hP, hD, hw⟩ := id hW
  obtain ⟨i0, hi⟩ := hw q _ h1
  exact va_last C.1 C.2.1 C.2.2.2.2.2.2.2.1 hP hD (x_self hS) i0 1 hi rfl h2 d (fun H1 locs1 hP1 hD1 hS1 => x_after kk hz hS hS1 (Wd_set (e' := .inl (1, n, .inr (.inl (vp_updL f i.toNatClampNeg v)))) hw hD hi hP1 hD1) hlv)
theorem x_alen (C : Ok X cc nL own rm ret) {q : Nat} {v : Int32} (d : decode cc pc = .ok (.arraylength, 1)) (pc' : Nat) (hp : pc + 1 = pc') (hv : alen σ q = some v) (kk : V X k σ pc' lv (.int v :: st)) : V X k σ pc lv (.ref q :: st) := by
  subst hp
  intro H locs ls hz hW hS hlv
  obtain ⟨⟨kd, n, x⟩, h1, h4, h2⟩ := alen_some hv
  obtain ⟨ws, hP, hD, hw⟩ := id hW
  obtain ⟨i0, hi⟩ := hw q _ h1
  have h4 : kd < 4 := h4
  match kd, h4, hi with
  | 0, _, hi => exact va_alen C.1 C.2.1 C.2.2.2.2.2.2.2.1 hP i0 0 hi rfl h2 d (kk H locs ls hz hW hS hlv)
  | 1, _, hi => exact va_alen C.1 C.2.1 C.2.2.2.2.2.2.2.1 hP i0 1 hi rfl h2 d (kk H locs ls hz hW hS hlv)
  | 2, _, hi => exact va_alen C.1 C.2.1 C.2.2.2.2.2.2.2.1 hP i0 2 hi rfl h2 d (kk H locs ls hz hW hS hlv)
  | 3, _, hi => exact va_alen C.1 C.2.1 C.2.2.2.2.2.2.2.1 hP i0 3 hi rfl h2 d (kk H locs ls hz hW hS hlv)
theorem x_copyI (C : Ok X cc nL own rm ret) {idx a0 a : Nat} {sp dp n : Int32} (d : decode cc pc = .ok (.invokestatic idx, 3)) (pc' : Nat) (hp : pc + 3 = pc') (hl : Cond.methodLink own idx arraycopyName ∈ gt) (hw1 : Cond.native arraycopyName ∈ gt ∧ Cond.static arraycopyName ∈ gt ∧ Cond.initialized "java/lang/System" ∈ gt) (hR : 1 ≤ rm.frames ∧ (st.map fun v => v.category).sum + (nativeFrameWords "java/lang/System" "arraycopy" 5 + 11) ≤ rm.locals) (hv : acI σ a0 sp a dp n = some σ') (kk : V X k σ' pc' lv st) : V X k σ pc lv (.int n :: .int dp :: .ref a :: .int sp :: .ref a0 :: st) := by
  subst hp
  intro H locs ls hz hW hS hlv
  obtain ⟨⟨n0, f⟩, h1, h2⟩ := x_bind hv
  obtain ⟨⟨n1, g⟩, h3, h4⟩ := x_bind h2
  split at h4
  · cases h4
  · rename_i hc
    cases h4
    obtain ⟨ws, hP, hD, hw⟩ := id hW
    obtain ⟨i0, hi0⟩ := hw a0 _ (arI_some h1)
    obtain ⟨i1, hi1⟩ := hw a _ (arI_some h3)
    have c1 : ¬ sp < 0 := fun h => hc (Or.inl h)
    have c2 : ¬ dp < 0 := fun h => hc (Or.inr (Or.inl h))
    have c3 : ¬ n < 0 := fun h => hc (Or.inr (Or.inr (Or.inl h)))
    have c4 : sp.toNatClampNeg + n.toNatClampNeg ≤ n0 := Nat.not_lt.mp (fun h => hc (Or.inr (Or.inr (Or.inr (Or.inl h)))))
    have c5 : dp.toNatClampNeg + n.toNatClampNeg ≤ n1 := Nat.not_lt.mp (fun h => hc (Or.inr (Or.inr (Or.inr (Or.inr h)))))
    have hts := C.2.2.2.2.1
    refine va_copyi C.1 C.2.1 (by rw [C.2.2.1.1, hlv.1, C.2.2.1.2]) C.2.2.2.1 (hts _ hl) (hts _ hw1.1) (hts _ hw1.2.1) (hts _ hw1.2.2) C.2.2.2.2.2.2.2.1 hP hD (x_self hS) i0 i1 0 0 hi0 hi1 rfl rfl rfl c1 c2 c3 c4 c5 (fun _ _ => rfl) (by rw [C.2.2.2.2.2.2.1]; exact hR.1) (by rw [C.2.2.2.2.2.2.1]; exact hR.2) d
      (fun H1 locs1 hP1 hD1 hS1 => x_after kk hz hS hS1 (Wd_set (e' := .inl (0, n1, .inl (va_cpy f g sp.toNatClampNeg dp.toNatClampNeg n.toNatClampNeg))) hw hD hi1 hP1 hD1) hlv)
theorem x_copyL (C : Ok X cc nL own rm ret) {idx a0 a : Nat} {sp dp n : Int32} (d : decode cc pc = .ok (.invokestatic idx, 3)) (pc' : Nat) (hp : pc + 3 = pc') (hl : Cond.methodLink own idx arraycopyName ∈ gt) (hw1 : Cond.native arraycopyName ∈ gt ∧ Cond.static arraycopyName ∈ gt ∧ Cond.initialized "java/lang/System" ∈ gt) (hR : 1 ≤ rm.frames ∧ (st.map fun v => v.category).sum + (nativeFrameWords "java/lang/System" "arraycopy" 5 + 11) ≤ rm.locals) (hv : acL σ a0 sp a dp n = some σ') (kk : V X k σ' pc' lv st) : V X k σ pc lv (.int n :: .int dp :: .ref a :: .int sp :: .ref a0 :: st) := by
  subst hp
  intro H locs ls hz hW hS hlv
  obtain ⟨⟨n0, f⟩, h1, h2⟩ := x_bind hv
  obtain ⟨⟨n1, g⟩, h3, h4⟩ := x_bind h2
  split at h4
  · cases h4
  · rename_i hc
    cases h4
    obtain ⟨ws, hP, hD, hw⟩ := id hW
    obtain ⟨i0, hi0⟩ := hw a0 _ (arL_some h1)
    obtain ⟨i1, hi1⟩ := hw a _ (arL_some h3)
    have c1 : ¬ sp < 0 := fun h => hc (Or.inl h)
    have c2 : ¬ dp < 0 := fun h => hc (Or.inr (Or.inl h))
    have c3 : ¬ n < 0 := fun h => hc (Or.inr (Or.inr (Or.inl h)))
    have c4 : sp.toNatClampNeg + n.toNatClampNeg ≤ n0 := Nat.not_lt.mp (fun h => hc (Or.inr (Or.inr (Or.inr (Or.inl h)))))
    have c5 : dp.toNatClampNeg + n.toNatClampNeg ≤ n1 := Nat.not_lt.mp (fun h => hc (Or.inr (Or.inr (Or.inr (Or.inr h)))))
    have hts := C.2.2.2.2.1
    refine va_copyl C.1 C.2.1 (by rw [C.2.2.1.1, hlv.1, C.2.2.1.2]) C.2.2.2.1 (hts _ hl) (hts _ hw1.1) (hts _ hw1.2.1) (hts _ hw1.2.2) C.2.2.2.2.2.2.2.1 hP hD (x_self hS) i0 i1 1 1 hi0 hi1 rfl rfl rfl c1 c2 c3 c4 c5 (fun _ _ => rfl) (by rw [C.2.2.2.2.2.2.1]; exact hR.1) (by rw [C.2.2.2.2.2.2.1]; exact hR.2) d
      (fun H1 locs1 hP1 hD1 hS1 => x_after kk hz hS hS1 (Wd_set (e' := .inl (1, n1, .inr (.inl (va_cpy f g sp.toNatClampNeg dp.toNatClampNeg n.toNatClampNeg)))) hw hD hi1 hP1 hD1) hlv)
theorem x_iret (C : Ok X cc nL own rm (some .int)) {v : Int32} (hE : xE1 X (some (.int v)) σ) (d : decode cc pc = .ok (.ireturn, 1)) : V X (0, 0) σ pc lv [.int v] := by
  intro H locs ls hz hW hS hlv
  rw [hE]
  exact W.iret C.1 C.2.1 C.2.2.2.2.2.1.2 (fun t ht hm => ⟨rfl, by rw [ht]; exact hW, by rw [ht]; exact hz, hS.F ht⟩) hS.2.2 d (hlocks := C.2.2.2.2.2.1.1)
theorem x_zret (C : Ok X cc nL own rm (some .boolean)) {v : Int32} (hn : narrow .boolean (.int v) = .int v) (hE : xE1 X (some (.int v)) σ) (d : decode cc pc = .ok (.ireturn, 1)) : V X (0, 0) σ pc lv [.int v] := by
  intro H locs ls hz hW hS hlv
  rw [hE]
  exact W.zret C.1 C.2.1 C.2.2.2.2.2.1.2 hn (fun t ht hm => ⟨rfl, by rw [ht]; exact hW, by rw [ht]; exact hz, hS.F ht⟩) hS.2.2 d (hlocks := C.2.2.2.2.2.1.1)
theorem x_lret (C : Ok X cc nL own rm (some .long)) {v : Int64} (hE : xE1 X (some (.long v)) σ) (d : decode cc pc = .ok (.lreturn, 1)) : V X (0, 0) σ pc lv [.long v] := by
  intro H locs ls hz hW hS hlv
  rw [hE]
  exact W.lret C.1 C.2.1 C.2.2.2.2.2.1.2 (fun t ht hm => ⟨rfl, by rw [ht]; exact hW, by rw [ht]; exact hz, hS.F ht⟩) hS.2.2 d (hlocks := C.2.2.2.2.2.1.1)
theorem x_vret (C : Ok X cc nL own rm none) (hE : xE1 X none σ) (d : decode cc pc = .ok (.return_, 1)) : V X (0, 0) σ pc lv [] := by
  intro H locs ls hz hW hS hlv
  rw [hE]
  exact W.vret C.1 C.2.1 C.2.2.2.2.2.1.2 (fun t ht hm => ⟨rfl, by rw [ht]; exact hW, by rw [ht]; exact hz, hS.F ht⟩) hS.2.2 d (hlocks := C.2.2.2.2.2.1.1)
theorem x_blind {as : List Value} {G : xG} {A : Nat → Prop} {σ : St} : FrameBlind (va_Pc as (xPre G A σ)) := by
  intro a U g mk q
  obtain ⟨q0, qW, qK, qA⟩ := q
  exact ⟨q0, qW, va_K.moved (u := U) (U := U.calling g mk a) (Vm.Alike.refl U.vm) qK, qA⟩
theorem x_run {H : Heap} {locs : List Loc} {ls : Array Slot} {st0 : List Value} {v : Option Value} {as : List Value} (hr : va_Run (xp X) (xl X) (xe X) (xR X) (xs X) (xm X) (xa X) (xb X) (xh X) (xc X) H locs k.1 k.2 0 0 (F0 (xm X) pc ls st0) st (xPost v (xGd X) (xA X) σ' as.toArray) (xA X))
    (hz : H.size = (xs X).heap.size + k.1) (hS : va_S (xA X) (xs X).heap H locs) (hlv : lv_has ls (xn X) lv) (kk : V X k σ' (pc + 3) lv (v.toList ++ st)) : W (xp X) (xl X) (xe X) (xR X) (xs X) (xm X) (xa X) (xb X) (xh X) (xc X) H locs k.1 k.2 (xQ X) (F0 (xm X) pc ls st0) := by
  intro T hT XS
  obtain ⟨v', st₀, t, T', L, h0, X', hL, e1, e2, ⟨hv, hWd, hsz, hF⟩, stp⟩ := hr T hT XS
  cases hv
  rw [h0] at hsz
  have hF1 := hF.1
  have hF2 := hF.2
  rw [h0] at hF1 hF2
  obtain ⟨t2, a1, b1⟩ := kk T'.heap (locs ++ L) ls (by rw [e1, hsz]; exact hz) (by rw [e1]; exact hWd) ⟨by rw [e1]; exact Nat.le_trans hS.1 hF1, fun q h1 h2 => by rw [e1, hF2 q (Nat.lt_of_lt_of_le h1 hS.1) h2]; exact hS.2.1 q h1 h2, fun q hq => by
      rcases List.mem_append.mp hq with h | h
      · exact hS.2.2 q h
      · exact hL q h⟩ hlv T' rfl X'
  exact ⟨t2, stp t2 a1, b1⟩
theorem x_pre (C : Ok X cc nL own rm ret) {H : Heap} {locs : List Loc} {as : List Value} (hW : Wd (xGd X) (xA X) σ H) (hS : va_S (xA X) (xs X).heap H locs) : ∀ U : State, U.heap = H → (xs X).WarmedH U.vm → va_Pc as (xPre (xGd X) (xA X) σ) as.toArray U := by
  intro U hU hm
  refine ⟨rfl, by rw [hU]; exact hW, va_K.moved hm.alike C.2.2.2.2.2.2.2.1, fun q h => C.2.2.2.2.2.2.2.2 q (Nat.le_trans hS.1 ?_)⟩
  rw [← hU]
  exact h
theorem x_callS (C : Ok X cc nL own rm ret) {idx n na : Nat} {y : MethodName} {b : ByteArray} {r : Option FieldType} {rm' : Room} {as stk : List Value} {v : Option Value} (d : decode cc pc = .ok (.invokestatic idx, 3)) (pc' : Nat) (hp : pc + 3 = pc') (hM : Con (xl X) y (xws y b n r) rm' as (xGd X) (xA X) σ v σ') (hy : xCal y b n r na) (hst : Cond.static y ∈ gt) (hl : Cond.methodLink own idx y ∈ gt)
    (hrm : rm'.cells = 0 ∧ rm'.slots = 0) (hR : rm'.frames + 1 ≤ rm.frames ∧ 8 + (n + 11) + rm'.locals ≤ rm.locals) (hk : k.1 ≤ rm.cells ∧ k.2 ≤ rm.slots) (hna : as.length = na) (hstk : stk = as.reverse ++ st) (hcat : (st.map fun v => v.category).sum ≤ 8) (kk : V X k σ' pc' lv (v.toList ++ st)) : V X k σ pc lv stk := by
  subst hp; subst hstk
  intro H locs ls hz hW hS hlv
  have hts := C.2.2.2.2.1
  have hRR := C.2.2.2.2.2.2.1
  refine x_run (v := v) (σ' := σ') (as := as) (va_runS (As := as) (rest := st) ⟨C.1, C.2.1, C.2.2.1.1, C.2.2.2.1, hts⟩ hM ⟨callB_of na hts (good_xws hy.1) rfl hrm.1 hrm.2 (hts _ hy.2.1) (hts _ hl) hy.2.2 (by rw [hRR]; exact hR), hts _ hst⟩ ⟨x_blind, x_pre C hW hS⟩ rfl hna (by show ls.size = _; rw [hlv.1, C.2.2.1.2]) rfl (lv_room hcat) d (by rw [hRR]; exact hk)) hz hS hlv kk
theorem x_callV (C : Ok X cc nL own rm ret) {idx n na q ci N : Nat} {y : MethodName} {b : ByteArray} {r : Option FieldType} {rm' : Room} {as stk : List Value} {v : Option Value} {Cn : String} {T : u_T} {u : Unit} (d : decode cc pc = .ok (.invokevirtual idx, 3)) (pc' : Nat) (hp : pc + 3 = pc') (ho : isO σ q ci = some u) (hci : x_cl[ci]? = some (Cn, T, N)) (hCn : Cn = y.cls) (hM : Con (xl X) y (xws y b n r) rm' (.ref q :: as) (xGd X) (xA X) σ v σ') (hy : xCal y b n r na) (hst : Cond.instanceMethod y ∈ gt ∧ Cond.selects y.cls y y ∈ gt) (hl : Cond.methodLink own idx y ∈ gt)
    (hrm : rm'.cells = 0 ∧ rm'.slots = 0) (hR : rm'.frames + 1 ≤ rm.frames ∧ 8 + (n + 11) + rm'.locals ≤ rm.locals) (hk : k.1 ≤ rm.cells ∧ k.2 ≤ rm.slots) (hna : as.length = na) (hstk : stk = as.reverse ++ .ref q :: st) (hcat : (st.map fun v => v.category).sum ≤ 8) (kk : V X k σ' pc' lv (v.toList ++ st)) : V X k σ pc lv stk := by
  subst hp; subst hstk; subst hCn
  intro H locs ls hz hW hS hlv
  have hts := C.2.2.2.2.1
  have hRR := C.2.2.2.2.2.2.1
  obtain ⟨fs, h1⟩ := isO_some ho
  obtain ⟨ws, hP, hD, hw⟩ := id hW
  obtain ⟨i0, hi⟩ := hw q _ h1
  refine x_run (v := v) (σ' := σ') (as := .ref q :: as) (va_runV (C := y.cls) (As := as) (rest := st) ⟨C.1, C.2.1, C.2.2.1.1, C.2.2.2.1, hts⟩ hM ⟨callB_of na hts (good_xws hy.1) rfl hrm.1 hrm.2 (hts _ hy.2.1) (hts _ hl) hy.2.2 (by rw [hRR]; exact hR), hts _ hst.1, hts _ hst.2⟩ ⟨x_blind, va_recv C.2.2.2.2.2.2.2.1 hP hci hi, x_pre C hW hS⟩ rfl hna (by show ls.size = _; rw [hlv.1, C.2.2.1.2]) rfl (lv_room hcat) d (by rw [hRR]; exact hk)) hz hS hlv kk
end XV
/-! loops: a body that goes on with a state, or ends with an answer -/
def iterN {α β : Type} (f : α → Option (α ⊕ β)) : Nat → α → Option β
  | 0, _ => none
  | n + 1, a => (f a).bind fun c => match c with
    | .inl a' => iterN f n a'
    | .inr b => some b
noncomputable def iterP {α β : Type} (f : α → Option (α ⊕ β)) (a : α) : Option β := by
  classical exact if h : ∃ (n : Nat) (b : β), iterN f n a = some b then some (Classical.choose (Classical.choose_spec h)) else none
theorem iterP_some {α β : Type} {f : α → Option (α ⊕ β)} {a : α} {b : β} (h : iterP f a = some b) : ∃ n, iterN f n a = some b := by
  unfold iterP at h
  split at h
  · rename_i hh
    refine ⟨Classical.choose hh, ?_⟩
    rw [← Option.some.inj h]
    exact Classical.choose_spec (Classical.choose_spec hh)
  · cases h
theorem iterN_mono {α β : Type} {f : α → Option (α ⊕ β)} : ∀ (n : Nat) (a : α) (b : β), iterN f n a = some b → ∀ m, n ≤ m → iterN f m a = some b := by
  intro n
  induction n with
  | zero => intro a b h; cases h
  | succ n ih =>
    intro a b h m hm
    obtain ⟨m, rfl⟩ : ∃ m', m = m' + 1 := ⟨m - 1, by omega⟩
    unfold iterN at h ⊢
    obtain ⟨c, h1, h2⟩ := x_bind h
    rw [h1]
    cases c with
    | inl a' => exact ih a' b h2 m (by omega)
    | inr b' => exact h2
theorem iterP_of {α β : Type} {f : α → Option (α ⊕ β)} {n : Nat} {a : α} {b : β} (h : iterN f n a = some b) : iterP f a = some b := by
  have hh : ∃ (n : Nat) (b : β), iterN f n a = some b := ⟨n, b, h⟩
  unfold iterP
  rw [dif_pos hh]
  have h2 := Classical.choose_spec (Classical.choose_spec hh)
  have a1 := iterN_mono _ _ _ h2 (max (Classical.choose hh) n) (Nat.le_max_left _ _)
  have a2 := iterN_mono _ _ _ h (max (Classical.choose hh) n) (Nat.le_max_right _ _)
  rw [a1] at a2
  exact a2
theorem iterP_eq {α β : Type} (f : α → Option (α ⊕ β)) (a : α) : iterP f a = (f a).bind fun c => match c with
    | .inl a' => iterP f a'
    | .inr b => some b := by
  cases hc : f a with
  | none =>
    cases h : iterP f a with
    | none => rfl
    | some b =>
      obtain ⟨n, hn⟩ := iterP_some h
      cases n with
      | zero => cases hn
      | succ n => unfold iterN at hn; rw [hc] at hn; cases hn
  | some c =>
    cases c with
    | inr b => exact iterP_of (n := 1) (by unfold iterN; rw [hc]; rfl)
    | inl a' =>
      show iterP f a = iterP f a'
      cases h : iterP f a' with
      | some b =>
        obtain ⟨n, hn⟩ := iterP_some h
        exact iterP_of (n := n + 1) (by unfold iterN; rw [hc]; exact hn)
      | none =>
        cases h2 : iterP f a with
        | none => rfl
        | some b =>
          obtain ⟨n, hn⟩ := iterP_some h2
          cases n with
          | zero => cases hn
          | succ n =>
            unfold iterN at hn
            rw [hc] at hn
            have h3 : iterP f a' = some b := iterP_of hn
            rw [h] at h3
            cases h3
def xlet {α β : Type} (a : α) (f : α → Option β) : Option β := f a
theorem xlet_some {α β : Type} {a : α} {f : α → Option β} {r : β} (h : xlet a f = some r) : ∃ v, a = v ∧ f v = some r := ⟨a, rfl, h⟩
