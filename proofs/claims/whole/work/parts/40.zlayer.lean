/-! THE LAYER ONCE MORE, for frames in which the size of the heap is not counted -/
def Vz (X : xX) (k : Nat × Nat) (σ : St) (pc : Nat) (lv : List (Nat × Value)) (st : List Value) : Prop :=
  ∀ (H : Heap) (locs : List Loc) (ls : Array Slot), Wd (xGd X) (xA X) σ H → va_S (xA X) (xs X).heap H locs → lv_has ls (xn X) lv →
    W (xp X) (xl X) (xe X) (xR X) (xs X) (xm X) (xa X) (xb X) (xh X) (xc X) H locs k.1 k.2 (xQ X) (F0 (xm X) pc ls st)
section XZ
variable {X : xX} {k : Nat × Nat} {σ σ' : St} {pc : Nat} {lv : List (Nat × Value)} {st : List Value} {cc : ByteArray} {nL : Nat} {own : String} {rm : Room} {ret : Option FieldType}
theorem z_after {H H1 : Heap} {locs locs1 : List Loc} {ls : Array Slot} (kk : Vz X k σ' pc lv st) (hS : va_S (xA X) (xs X).heap H locs) (hS' : va_S (xA X) H H1 locs1) (hW : Wd (xGd X) (xA X) σ' H1) (hl : lv_has ls (xn X) lv) :
    W (xp X) (xl X) (xe X) (xR X) (xs X) (xm X) (xa X) (xb X) (xh X) (xc X) H1 locs1 k.1 k.2 (xQ X) (F0 (xm X) pc ls st) :=
  kk H1 locs1 ls hW ⟨Nat.le_trans hS.1 hS'.1, fun q a b => (hS'.2.1 q (Nat.lt_of_lt_of_le a hS.1) b).trans (hS.2.1 q a b), hS'.2.2⟩ hl
theorem z_run {H : Heap} {locs : List Loc} {ls : Array Slot} {st0 : List Value} {v : Option Value} {as : List Value} (hr : va_Run (xp X) (xl X) (xe X) (xR X) (xs X) (xm X) (xa X) (xb X) (xh X) (xc X) H locs k.1 k.2 0 0 (F0 (xm X) pc ls st0) st (xPost v (xGd X) (xA X) σ' as.toArray) (xA X))
    (hS : va_S (xA X) (xs X).heap H locs) (hlv : lv_has ls (xn X) lv) (kk : Vz X k σ' (pc + 3) lv (v.toList ++ st)) : W (xp X) (xl X) (xe X) (xR X) (xs X) (xm X) (xa X) (xb X) (xh X) (xc X) H locs k.1 k.2 (xQ X) (F0 (xm X) pc ls st0) := by
  intro T hT XS
  obtain ⟨v', st₀, t, T', L, h0, X', hL, e1, e2, ⟨hv, hWd, hsz, hF⟩, stp⟩ := hr T hT XS
  cases hv
  have hF1 := hF.1
  have hF2 := hF.2
  rw [h0] at hF1 hF2
  obtain ⟨t2, a1, b1⟩ := kk T'.heap (locs ++ L) ls (by rw [e1]; exact hWd) ⟨by rw [e1]; exact Nat.le_trans hS.1 hF1, fun q h1 h2 => by rw [e1, hF2 q (Nat.lt_of_lt_of_le h1 hS.1) h2]; exact hS.2.1 q h1 h2, fun q hq => by
      rcases List.mem_append.mp hq with h | h
      · exact hS.2.2 q h
      · exact hL q h⟩ hlv T' rfl X'
  exact ⟨t2, stp t2 a1, b1⟩
theorem z_topi {x y : Int32} (h : x = y) (kk : Vz X k σ pc lv (.int y :: st)) : Vz X k σ pc lv (.int x :: st) := h ▸ kk
theorem z_topl {x y : Int64} (h : x = y) (kk : Vz X k σ pc lv (.long y :: st)) : Vz X k σ pc lv (.long x :: st) := h ▸ kk
theorem z_iconst (C : Ok X cc nL own rm ret) {n : Int} (d : decode cc pc = .ok (.iconst n, 1)) (pc' : Nat) (hp : pc + 1 = pc') (v : Int32) (hv : Int32.ofInt n = v) (kk : Vz X k σ pc' lv (.int v :: st)) : Vz X k σ pc lv st := by
  subst hp; exact fun H locs ls hW hS hl => lv_iconst C.1 C.2.1 d hv (kk H locs ls hW hS hl)
theorem z_bipush (C : Ok X cc nL own rm ret) {n : Int} (d : decode cc pc = .ok (.bipush n, 2)) (pc' : Nat) (hp : pc + 2 = pc') (v : Int32) (hv : (Int8.ofInt n).toInt32 = v) (kk : Vz X k σ pc' lv (.int v :: st)) : Vz X k σ pc lv st := by
  subst hp; exact fun H locs ls hW hS hl => lv_bipush C.1 C.2.1 d hv (kk H locs ls hW hS hl)
theorem z_sipush (C : Ok X cc nL own rm ret) {n : Int} (d : decode cc pc = .ok (.sipush n, 3)) (pc' : Nat) (hp : pc + 3 = pc') (v : Int32) (hv : (Int16.ofInt n).toInt32 = v) (kk : Vz X k σ pc' lv (.int v :: st)) : Vz X k σ pc lv st := by
  subst hp; exact fun H locs ls hW hS hl => lv_sipush C.1 C.2.1 d hv (kk H locs ls hW hS hl)
theorem z_lconst (C : Ok X cc nL own rm ret) {n : Fin 2} (d : decode cc pc = .ok (.lconst n, 1)) (pc' : Nat) (hp : pc + 1 = pc') (v : Int64) (hv : Int64.ofNat (n : Nat) = v) (kk : Vz X k σ pc' lv (.long v :: st)) : Vz X k σ pc lv st := by
  subst hp; exact fun H locs ls hW hS hl => lv_lconst C.1 C.2.1 d hv (kk H locs ls hW hS hl)
theorem z_ldc2 (C : Ok X cc nL own rm ret) {index : Nat} {v : Int64} (d : decode cc pc = .ok (.ldc2_w index, 3)) (pc' : Nat) (hp : pc + 3 = pc') (hw : Cond.constantLong own index v ∈ gt) (kk : Vz X k σ pc' lv (.long v :: st)) : Vz X k σ pc lv st := by
  subst hp; exact fun H locs ls hW hS hl => lv_ldc2 C.1 C.2.1 C.2.2.2.1 (C.2.2.2.2.1 _ hw) d (kk H locs ls hW hS hl)
theorem z_ldc (C : Ok X cc nL own rm ret) {index : Nat} {v : Int32} (d : decode cc pc = .ok (.ldc index, 2)) (pc' : Nat) (hp : pc + 2 = pc') (hw : Cond.constant own index v ∈ gt) (kk : Vz X k σ pc' lv (.int v :: st)) : Vz X k σ pc lv st := by
  subst hp; exact fun H locs ls hW hS hl => lv_ldc C.1 C.2.1 C.2.2.2.1 (C.2.2.2.2.1 _ hw) d (kk H locs ls hW hS hl)
theorem z_ldcw (C : Ok X cc nL own rm ret) {index : Nat} {v : Int32} (d : decode cc pc = .ok (.ldc_w index, 3)) (pc' : Nat) (hp : pc + 3 = pc') (hw : Cond.constant own index v ∈ gt) (kk : Vz X k σ pc' lv (.int v :: st)) : Vz X k σ pc lv st := by
  subst hp; exact fun H locs ls hW hS hl => lv_ldcw C.1 C.2.1 C.2.2.2.1 (C.2.2.2.2.1 _ hw) d (kk H locs ls hW hS hl)
theorem z_iload_n (C : Ok X cc nL own rm ret) {n : Fin 4} (d : decode cc pc = .ok (.iload_n n, 1)) (pc' : Nat) (hp : pc + 1 = pc') (j : Nat) {i : Nat} {x : Int32} (hi : (n : Nat) = i) (hk : lv[j]? = some (i, .int x)) (kk : Vz X k σ pc' lv (.int x :: st)) : Vz X k σ pc lv st := by
  subst hp; exact fun H locs ls hW hS hl => lv_iload_n C.1 C.2.1 d hi (lv_at hl j hk) (kk H locs ls hW hS hl)
theorem z_iload (C : Ok X cc nL own rm ret) {i : Nat} (d : decode cc pc = .ok (.iload i, 2)) (pc' : Nat) (hp : pc + 2 = pc') (j : Nat) {x : Int32} (hk : lv[j]? = some (i, .int x)) (kk : Vz X k σ pc' lv (.int x :: st)) : Vz X k σ pc lv st := by
  subst hp; exact fun H locs ls hW hS hl => lv_iload C.1 C.2.1 d (lv_at hl j hk) (kk H locs ls hW hS hl)
theorem z_lload_n (C : Ok X cc nL own rm ret) {n : Fin 4} (d : decode cc pc = .ok (.lload_n n, 1)) (pc' : Nat) (hp : pc + 1 = pc') (j : Nat) {i : Nat} {x : Int64} (hi : (n : Nat) = i) (hk : lv[j]? = some (i, .long x)) (kk : Vz X k σ pc' lv (.long x :: st)) : Vz X k σ pc lv st := by
  subst hp; exact fun H locs ls hW hS hl => lv_lload_n C.1 C.2.1 d hi (lv_at hl j hk) (kk H locs ls hW hS hl)
theorem z_lload (C : Ok X cc nL own rm ret) {i : Nat} (d : decode cc pc = .ok (.lload i, 2)) (pc' : Nat) (hp : pc + 2 = pc') (j : Nat) {x : Int64} (hk : lv[j]? = some (i, .long x)) (kk : Vz X k σ pc' lv (.long x :: st)) : Vz X k σ pc lv st := by
  subst hp; exact fun H locs ls hW hS hl => lv_lload C.1 C.2.1 d (lv_at hl j hk) (kk H locs ls hW hS hl)
theorem z_aload_n (C : Ok X cc nL own rm ret) {n : Fin 4} (d : decode cc pc = .ok (.aload_n n, 1)) (pc' : Nat) (hp : pc + 1 = pc') (j : Nat) {i x : Nat} (hi : (n : Nat) = i) (hk : lv[j]? = some (i, .ref x)) (kk : Vz X k σ pc' lv (.ref x :: st)) : Vz X k σ pc lv st := by
  subst hp; exact fun H locs ls hW hS hl => lv_aload_n C.1 C.2.1 d hi (lv_at hl j hk) (kk H locs ls hW hS hl)
theorem z_aload (C : Ok X cc nL own rm ret) {i : Nat} (d : decode cc pc = .ok (.aload i, 2)) (pc' : Nat) (hp : pc + 2 = pc') (j : Nat) {x : Nat} (hk : lv[j]? = some (i, .ref x)) (kk : Vz X k σ pc' lv (.ref x :: st)) : Vz X k σ pc lv st := by
  subst hp; exact fun H locs ls hW hS hl => lv_aload C.1 C.2.1 d (lv_at hl j hk) (kk H locs ls hW hS hl)
theorem z_istore_n (C : Ok X cc nL own rm ret) {n : Fin 4} (d : decode cc pc = .ok (.istore_n n, 1)) (pc' : Nat) (hp : pc + 1 = pc') {i : Nat} {x : Int32} (hi : (n : Nat) = i) (hn : Nat.blt i nL = true) (lv' : List (Nat × Value)) (hl : lv1 lv i (.int x) = lv') (kk : Vz X k σ pc' lv' st) : Vz X k σ pc lv (.int x :: st) := by
  subst hp; exact fun H locs ls hW hS h => lv_istore_n C.1 C.2.1 d hi h (x_lt C hn) hl (fun ls' h' => kk H locs ls' hW hS h')
theorem z_istore (C : Ok X cc nL own rm ret) {i : Nat} (d : decode cc pc = .ok (.istore i, 2)) (pc' : Nat) (hp : pc + 2 = pc') {x : Int32} (hn : Nat.blt i nL = true) (lv' : List (Nat × Value)) (hl : lv1 lv i (.int x) = lv') (kk : Vz X k σ pc' lv' st) : Vz X k σ pc lv (.int x :: st) := by
  subst hp; exact fun H locs ls hW hS h => lv_istore C.1 C.2.1 d h (x_lt C hn) hl (fun ls' h' => kk H locs ls' hW hS h')
theorem z_lstore_n (C : Ok X cc nL own rm ret) {n : Fin 4} (d : decode cc pc = .ok (.lstore_n n, 1)) (pc' : Nat) (hp : pc + 1 = pc') {i : Nat} {x : Int64} (hi : (n : Nat) = i) (hn : Nat.blt (i + 1) nL = true) (lv' : List (Nat × Value)) (hl : lv2 lv i (.long x) = lv') (kk : Vz X k σ pc' lv' st) : Vz X k σ pc lv (.long x :: st) := by
  subst hp; exact fun H locs ls hW hS h => lv_lstore_n C.1 C.2.1 d hi h (x_lt C hn) hl (fun ls' h' => kk H locs ls' hW hS h')
theorem z_lstore (C : Ok X cc nL own rm ret) {i : Nat} (d : decode cc pc = .ok (.lstore i, 2)) (pc' : Nat) (hp : pc + 2 = pc') {x : Int64} (hn : Nat.blt (i + 1) nL = true) (lv' : List (Nat × Value)) (hl : lv2 lv i (.long x) = lv') (kk : Vz X k σ pc' lv' st) : Vz X k σ pc lv (.long x :: st) := by
  subst hp; exact fun H locs ls hW hS h => lv_lstore C.1 C.2.1 d h (x_lt C hn) hl (fun ls' h' => kk H locs ls' hW hS h')
theorem z_astore_n (C : Ok X cc nL own rm ret) {n : Fin 4} (d : decode cc pc = .ok (.astore_n n, 1)) (pc' : Nat) (hp : pc + 1 = pc') {i x : Nat} (hi : (n : Nat) = i) (hn : Nat.blt i nL = true) (lv' : List (Nat × Value)) (hl : lv1 lv i (.ref x) = lv') (kk : Vz X k σ pc' lv' st) : Vz X k σ pc lv (.ref x :: st) := by
  subst hp; exact fun H locs ls hW hS h => lv_astore_n C.1 C.2.1 d hi h (x_lt C hn) hl (fun ls' h' => kk H locs ls' hW hS h')
theorem z_astore (C : Ok X cc nL own rm ret) {i : Nat} (d : decode cc pc = .ok (.astore i, 2)) (pc' : Nat) (hp : pc + 2 = pc') {x : Nat} (hn : Nat.blt i nL = true) (lv' : List (Nat × Value)) (hl : lv1 lv i (.ref x) = lv') (kk : Vz X k σ pc' lv' st) : Vz X k σ pc lv (.ref x :: st) := by
  subst hp; exact fun H locs ls hW hS h => lv_astore C.1 C.2.1 d h (x_lt C hn) hl (fun ls' h' => kk H locs ls' hW hS h')
theorem z_iinc (C : Ok X cc nL own rm ret) {i : Nat} {n : Int} (d : decode cc pc = .ok (.iinc i n, 3)) (pc' : Nat) (hp : pc + 3 = pc') (j : Nat) {x : Int32} (hk : lv[j]? = some (i, .int x)) (v : Int32) (hv : x + Int32.ofInt n = v) (hn : Nat.blt i nL = true) (lv' : List (Nat × Value)) (hl : lv1 lv i (.int v) = lv') (kk : Vz X k σ pc' lv' st) : Vz X k σ pc lv st := by
  subst hp; exact fun H locs ls hW hS h => lv_iinc C.1 C.2.1 d h hk hv (x_lt C hn) hl (fun ls' h' => kk H locs ls' hW hS h')
theorem z_lv (ks : List Nat) {lv' : List (Nat × Value)} (hl : lv_pick lv ks = lv') (kk : Vz X k σ pc lv' st) : Vz X k σ pc lv st := fun H locs ls hW hS h => kk H locs ls hW hS (lv_sub h ks hl)
theorem z_iadd (C : Ok X cc nL own rm ret) {x y : Int32} (d : decode cc pc = .ok (.iadd, 1)) (pc' : Nat) (hp : pc + 1 = pc') (kk : Vz X k σ pc' lv (.int (x + y) :: st)) : Vz X k σ pc lv (.int y :: .int x :: st) := by
  subst hp; exact fun H locs ls hW hS hl => lv_iadd C.1 C.2.1 d (kk H locs ls hW hS hl)
theorem z_isub (C : Ok X cc nL own rm ret) {x y : Int32} (d : decode cc pc = .ok (.isub, 1)) (pc' : Nat) (hp : pc + 1 = pc') (kk : Vz X k σ pc' lv (.int (x - y) :: st)) : Vz X k σ pc lv (.int y :: .int x :: st) := by
  subst hp; exact fun H locs ls hW hS hl => lv_isub C.1 C.2.1 d (kk H locs ls hW hS hl)
theorem z_imul (C : Ok X cc nL own rm ret) {x y : Int32} (d : decode cc pc = .ok (.imul, 1)) (pc' : Nat) (hp : pc + 1 = pc') (kk : Vz X k σ pc' lv (.int (x * y) :: st)) : Vz X k σ pc lv (.int y :: .int x :: st) := by
  subst hp; exact fun H locs ls hW hS hl => lv_imul C.1 C.2.1 d (kk H locs ls hW hS hl)
theorem z_iand (C : Ok X cc nL own rm ret) {x y : Int32} (d : decode cc pc = .ok (.iand, 1)) (pc' : Nat) (hp : pc + 1 = pc') (kk : Vz X k σ pc' lv (.int (x &&& y) :: st)) : Vz X k σ pc lv (.int y :: .int x :: st) := by
  subst hp; exact fun H locs ls hW hS hl => lv_iand C.1 C.2.1 d (kk H locs ls hW hS hl)
theorem z_ior (C : Ok X cc nL own rm ret) {x y : Int32} (d : decode cc pc = .ok (.ior, 1)) (pc' : Nat) (hp : pc + 1 = pc') (kk : Vz X k σ pc' lv (.int (x ||| y) :: st)) : Vz X k σ pc lv (.int y :: .int x :: st) := by
  subst hp; exact fun H locs ls hW hS hl => lv_ior C.1 C.2.1 d (kk H locs ls hW hS hl)
theorem z_ixor (C : Ok X cc nL own rm ret) {x y : Int32} (d : decode cc pc = .ok (.ixor, 1)) (pc' : Nat) (hp : pc + 1 = pc') (kk : Vz X k σ pc' lv (.int (x ^^^ y) :: st)) : Vz X k σ pc lv (.int y :: .int x :: st) := by
  subst hp; exact fun H locs ls hW hS hl => lv_ixor C.1 C.2.1 d (kk H locs ls hW hS hl)
theorem z_ishl (C : Ok X cc nL own rm ret) {x y : Int32} (d : decode cc pc = .ok (.ishl, 1)) (pc' : Nat) (hp : pc + 1 = pc') (kk : Vz X k σ pc' lv (.int (x <<< (y &&& 31)) :: st)) : Vz X k σ pc lv (.int y :: .int x :: st) := by
  subst hp; exact fun H locs ls hW hS hl => lv_ishl C.1 C.2.1 d (kk H locs ls hW hS hl)
theorem z_ishr (C : Ok X cc nL own rm ret) {x y : Int32} (d : decode cc pc = .ok (.ishr, 1)) (pc' : Nat) (hp : pc + 1 = pc') (kk : Vz X k σ pc' lv (.int (x >>> (y &&& 31)) :: st)) : Vz X k σ pc lv (.int y :: .int x :: st) := by
  subst hp; exact fun H locs ls hW hS hl => lv_ishr C.1 C.2.1 d (kk H locs ls hW hS hl)
theorem z_ladd (C : Ok X cc nL own rm ret) {x y : Int64} (d : decode cc pc = .ok (.ladd, 1)) (pc' : Nat) (hp : pc + 1 = pc') (kk : Vz X k σ pc' lv (.long (x + y) :: st)) : Vz X k σ pc lv (.long y :: .long x :: st) := by
  subst hp; exact fun H locs ls hW hS hl => lv_ladd C.1 C.2.1 d (kk H locs ls hW hS hl)
theorem z_lsub (C : Ok X cc nL own rm ret) {x y : Int64} (d : decode cc pc = .ok (.lsub, 1)) (pc' : Nat) (hp : pc + 1 = pc') (kk : Vz X k σ pc' lv (.long (x - y) :: st)) : Vz X k σ pc lv (.long y :: .long x :: st) := by
  subst hp; exact fun H locs ls hW hS hl => lv_lsub C.1 C.2.1 d (kk H locs ls hW hS hl)
theorem z_lmul (C : Ok X cc nL own rm ret) {x y : Int64} (d : decode cc pc = .ok (.lmul, 1)) (pc' : Nat) (hp : pc + 1 = pc') (kk : Vz X k σ pc' lv (.long (x * y) :: st)) : Vz X k σ pc lv (.long y :: .long x :: st) := by
  subst hp; exact fun H locs ls hW hS hl => lv_lmul C.1 C.2.1 d (kk H locs ls hW hS hl)
theorem z_land (C : Ok X cc nL own rm ret) {x y : Int64} (d : decode cc pc = .ok (.land, 1)) (pc' : Nat) (hp : pc + 1 = pc') (kk : Vz X k σ pc' lv (.long (x &&& y) :: st)) : Vz X k σ pc lv (.long y :: .long x :: st) := by
  subst hp; exact fun H locs ls hW hS hl => lv_land C.1 C.2.1 d (kk H locs ls hW hS hl)
theorem z_lor (C : Ok X cc nL own rm ret) {x y : Int64} (d : decode cc pc = .ok (.lor, 1)) (pc' : Nat) (hp : pc + 1 = pc') (kk : Vz X k σ pc' lv (.long (x ||| y) :: st)) : Vz X k σ pc lv (.long y :: .long x :: st) := by
  subst hp; exact fun H locs ls hW hS hl => lv_lor C.1 C.2.1 d (kk H locs ls hW hS hl)
theorem z_lxor (C : Ok X cc nL own rm ret) {x y : Int64} (d : decode cc pc = .ok (.lxor, 1)) (pc' : Nat) (hp : pc + 1 = pc') (kk : Vz X k σ pc' lv (.long (x ^^^ y) :: st)) : Vz X k σ pc lv (.long y :: .long x :: st) := by
  subst hp; exact fun H locs ls hW hS hl => lv_lxor C.1 C.2.1 d (kk H locs ls hW hS hl)
theorem z_ldiv (C : Ok X cc nL own rm ret) {x y : Int64} (d : decode cc pc = .ok (.ldiv, 1)) (pc' : Nat) (hp : pc + 1 = pc') (hne : ¬ y = 0) (kk : Vz X k σ pc' lv (.long (x / y) :: st)) : Vz X k σ pc lv (.long y :: .long x :: st) := by
  subst hp; exact fun H locs ls hW hS hl => lv_ldiv C.1 C.2.1 d hne (kk H locs ls hW hS hl)
theorem z_lrem (C : Ok X cc nL own rm ret) {x y : Int64} (d : decode cc pc = .ok (.lrem, 1)) (pc' : Nat) (hp : pc + 1 = pc') (hne : ¬ y = 0) (kk : Vz X k σ pc' lv (.long (x - x / y * y) :: st)) : Vz X k σ pc lv (.long y :: .long x :: st) := by
  subst hp; exact fun H locs ls hW hS hl => lv_lrem C.1 C.2.1 d hne (kk H locs ls hW hS hl)
theorem z_idiv (C : Ok X cc nL own rm ret) {x y : Int32} (d : decode cc pc = .ok (.idiv, 1)) (pc' : Nat) (hp : pc + 1 = pc') (hne : ¬ y = 0) (kk : Vz X k σ pc' lv (.int (x / y) :: st)) : Vz X k σ pc lv (.int y :: .int x :: st) := by
  subst hp; exact fun H locs ls hW hS hl => lv_idiv C.1 C.2.1 d hne (kk H locs ls hW hS hl)
theorem z_irem (C : Ok X cc nL own rm ret) {x y : Int32} (d : decode cc pc = .ok (.irem, 1)) (pc' : Nat) (hp : pc + 1 = pc') (hne : ¬ y = 0) (kk : Vz X k σ pc' lv (.int (x - x / y * y) :: st)) : Vz X k σ pc lv (.int y :: .int x :: st) := by
  subst hp; exact fun H locs ls hW hS hl => lv_irem C.1 C.2.1 d hne (kk H locs ls hW hS hl)
theorem z_lushr (C : Ok X cc nL own rm ret) {x : Int64} {y : Int32} (d : decode cc pc = .ok (.lushr, 1)) (pc' : Nat) (hp : pc + 1 = pc') (kk : Vz X k σ pc' lv (.long ((x.toUInt64 >>> (y.toInt64.toUInt64 &&& Int64.toUInt64 63)).toInt64) :: st)) : Vz X k σ pc lv (.int y :: .long x :: st) := by
  subst hp; exact fun H locs ls hW hS hl => lv_lushr C.1 C.2.1 d rfl (kk H locs ls hW hS hl)
theorem z_lshl (C : Ok X cc nL own rm ret) {x : Int64} {y : Int32} (d : decode cc pc = .ok (.lshl, 1)) (pc' : Nat) (hp : pc + 1 = pc') (kk : Vz X k σ pc' lv (.long (x <<< (y.toInt64 &&& 63)) :: st)) : Vz X k σ pc lv (.int y :: .long x :: st) := by
  subst hp; exact fun H locs ls hW hS hl => lv_lshl C.1 C.2.1 d rfl (kk H locs ls hW hS hl)
theorem z_lshr (C : Ok X cc nL own rm ret) {x : Int64} {y : Int32} (d : decode cc pc = .ok (.lshr, 1)) (pc' : Nat) (hp : pc + 1 = pc') (kk : Vz X k σ pc' lv (.long (x >>> (y.toInt64 &&& 63)) :: st)) : Vz X k σ pc lv (.int y :: .long x :: st) := by
  subst hp; exact fun H locs ls hW hS hl => lv_lshr C.1 C.2.1 d rfl (kk H locs ls hW hS hl)
theorem z_iushr (C : Ok X cc nL own rm ret) {x y : Int32} (d : decode cc pc = .ok (.iushr, 1)) (pc' : Nat) (hp : pc + 1 = pc') (kk : Vz X k σ pc' lv (.int ((x.toUInt32 >>> (y.toUInt32 &&& Int32.toUInt32 31)).toInt32) :: st)) : Vz X k σ pc lv (.int y :: .int x :: st) := by
  subst hp; exact fun H locs ls hW hS hl => lv_iushr C.1 C.2.1 d rfl (kk H locs ls hW hS hl)
theorem z_ineg (C : Ok X cc nL own rm ret) {x : Int32} (d : decode cc pc = .ok (.ineg, 1)) (pc' : Nat) (hp : pc + 1 = pc') (kk : Vz X k σ pc' lv (.int (-x) :: st)) : Vz X k σ pc lv (.int x :: st) := by
  subst hp; exact fun H locs ls hW hS hl => lv_ineg C.1 C.2.1 d (kk H locs ls hW hS hl)
theorem z_i2l (C : Ok X cc nL own rm ret) {x : Int32} (d : decode cc pc = .ok (.i2l, 1)) (pc' : Nat) (hp : pc + 1 = pc') (kk : Vz X k σ pc' lv (.long (x.toInt64) :: st)) : Vz X k σ pc lv (.int x :: st) := by
  subst hp; exact fun H locs ls hW hS hl => lv_i2l C.1 C.2.1 d rfl (kk H locs ls hW hS hl)
theorem z_l2i (C : Ok X cc nL own rm ret) {x : Int64} (d : decode cc pc = .ok (.l2i, 1)) (pc' : Nat) (hp : pc + 1 = pc') (kk : Vz X k σ pc' lv (.int (x.toInt32) :: st)) : Vz X k σ pc lv (.long x :: st) := by
  subst hp; exact fun H locs ls hW hS hl => lv_l2i C.1 C.2.1 d rfl (kk H locs ls hW hS hl)
theorem z_i2b (C : Ok X cc nL own rm ret) {x : Int32} (d : decode cc pc = .ok (.i2b, 1)) (pc' : Nat) (hp : pc + 1 = pc') (kk : Vz X k σ pc' lv (.int (x.toInt8.toInt32) :: st)) : Vz X k σ pc lv (.int x :: st) := by
  subst hp; exact fun H locs ls hW hS hl => lv_i2b C.1 C.2.1 d rfl (kk H locs ls hW hS hl)
theorem z_i2c (C : Ok X cc nL own rm ret) {x : Int32} (d : decode cc pc = .ok (.i2c, 1)) (pc' : Nat) (hp : pc + 1 = pc') (kk : Vz X k σ pc' lv (.int ((x.toUInt32 % 65536).toInt32) :: st)) : Vz X k σ pc lv (.int x :: st) := by
  subst hp; exact fun H locs ls hW hS hl => lv_i2c C.1 C.2.1 d rfl (kk H locs ls hW hS hl)
theorem z_lcmp (C : Ok X cc nL own rm ret) {x y : Int64} (d : decode cc pc = .ok (.lcmp, 1)) (pc' : Nat) (hp : pc + 1 = pc') (kk : Vz X k σ pc' lv (.int (lg_cmp x y) :: st)) : Vz X k σ pc lv (.long y :: .long x :: st) := by
  subst hp; exact fun H locs ls hW hS hl => W.lcmp C.1 C.2.1 d (kk H locs ls hW hS hl)
theorem z_dup (C : Ok X cc nL own rm ret) {a : Value} (d : decode cc pc = .ok (.dup, 1)) (pc' : Nat) (hp : pc + 1 = pc') (h : a.category = 1) (kk : Vz X k σ pc' lv (a :: a :: st)) : Vz X k σ pc lv (a :: st) := by
  subst hp; exact fun H locs ls hW hS hl => lv_dup C.1 C.2.1 d h (kk H locs ls hW hS hl)
theorem z_pop (C : Ok X cc nL own rm ret) {a : Value} (d : decode cc pc = .ok (.pop, 1)) (pc' : Nat) (hp : pc + 1 = pc') (h : a.category = 1) (kk : Vz X k σ pc' lv st) : Vz X k σ pc lv (a :: st) := by
  subst hp; exact fun H locs ls hW hS hl => lv_pop C.1 C.2.1 d h (kk H locs ls hW hS hl)
theorem z_pop2 (C : Ok X cc nL own rm ret) {a : Value} (d : decode cc pc = .ok (.pop2, 1)) (pc' : Nat) (hp : pc + 1 = pc') (h : a.category = 2) (kk : Vz X k σ pc' lv st) : Vz X k σ pc lv (a :: st) := by
  subst hp; exact fun H locs ls hW hS hl => lv_pop2_2 C.1 C.2.1 d h (kk H locs ls hW hS hl)
theorem z_dup_x1 (C : Ok X cc nL own rm ret) {a b : Value} (d : decode cc pc = .ok (.dup_x1, 1)) (pc' : Nat) (hp : pc + 1 = pc') (h : a.category = 1) (h2 : b.category = 1) (kk : Vz X k σ pc' lv (a :: b :: a :: st)) : Vz X k σ pc lv (a :: b :: st) := by
  subst hp; exact fun H locs ls hW hS hl => lv_dup_x1 C.1 C.2.1 d h h2 (kk H locs ls hW hS hl)
theorem z_dup2 (C : Ok X cc nL own rm ret) {a b : Value} (d : decode cc pc = .ok (.dup2, 1)) (pc' : Nat) (hp : pc + 1 = pc') (h : a.category = 1) (h2 : b.category = 1) (kk : Vz X k σ pc' lv (a :: b :: a :: b :: st)) : Vz X k σ pc lv (a :: b :: st) := by
  subst hp; exact fun H locs ls hW hS hl => lv_dup2_11 C.1 C.2.1 d h h2 (kk H locs ls hW hS hl)
theorem z_dup2_2 (C : Ok X cc nL own rm ret) {a : Value} (d : decode cc pc = .ok (.dup2, 1)) (pc' : Nat) (hp : pc + 1 = pc') (h : a.category = 2) (kk : Vz X k σ pc' lv (a :: a :: st)) : Vz X k σ pc lv (a :: st) := by
  subst hp; exact fun H locs ls hW hS hl => lv_dup2_2 C.1 C.2.1 d h (kk H locs ls hW hS hl)
theorem z_if_eq (C : Ok X cc nL own rm ret) {x : Int32} {off : Int} (d : decode cc pc = .ok (.ifCond .eq off, 3)) (tgt : Nat) (ht : (pc : Int) + off = (tgt : Int)) (pc' : Nat) (hp : pc + 3 = pc') (kt : x = 0 → Vz X k σ tgt lv st) (kf : ¬ x = 0 → Vz X k σ pc' lv st) : Vz X k σ pc lv (.int x :: st) := by
  subst hp; exact fun H locs ls hW hS hl => lv_if_eq C.1 C.2.1 d ht (fun h => kt h H locs ls hW hS hl) (fun h => kf h H locs ls hW hS hl)
theorem z_if_ne (C : Ok X cc nL own rm ret) {x : Int32} {off : Int} (d : decode cc pc = .ok (.ifCond .ne off, 3)) (tgt : Nat) (ht : (pc : Int) + off = (tgt : Int)) (pc' : Nat) (hp : pc + 3 = pc') (kt : ¬ x = 0 → Vz X k σ tgt lv st) (kf : x = 0 → Vz X k σ pc' lv st) : Vz X k σ pc lv (.int x :: st) := by
  subst hp; exact fun H locs ls hW hS hl => lv_if_ne C.1 C.2.1 d ht (fun h => kt h H locs ls hW hS hl) (fun h => kf h H locs ls hW hS hl)
theorem z_if_lt (C : Ok X cc nL own rm ret) {x : Int32} {off : Int} (d : decode cc pc = .ok (.ifCond .lt off, 3)) (tgt : Nat) (ht : (pc : Int) + off = (tgt : Int)) (pc' : Nat) (hp : pc + 3 = pc') (kt : x < 0 → Vz X k σ tgt lv st) (kf : ¬ x < 0 → Vz X k σ pc' lv st) : Vz X k σ pc lv (.int x :: st) := by
  subst hp; exact fun H locs ls hW hS hl => lv_if_lt C.1 C.2.1 d ht (fun h => kt h H locs ls hW hS hl) (fun h => kf h H locs ls hW hS hl)
theorem z_if_ge (C : Ok X cc nL own rm ret) {x : Int32} {off : Int} (d : decode cc pc = .ok (.ifCond .ge off, 3)) (tgt : Nat) (ht : (pc : Int) + off = (tgt : Int)) (pc' : Nat) (hp : pc + 3 = pc') (kt : 0 ≤ x → Vz X k σ tgt lv st) (kf : ¬ 0 ≤ x → Vz X k σ pc' lv st) : Vz X k σ pc lv (.int x :: st) := by
  subst hp; exact fun H locs ls hW hS hl => lv_if_ge C.1 C.2.1 d ht (fun h => kt h H locs ls hW hS hl) (fun h => kf h H locs ls hW hS hl)
theorem z_if_gt (C : Ok X cc nL own rm ret) {x : Int32} {off : Int} (d : decode cc pc = .ok (.ifCond .gt off, 3)) (tgt : Nat) (ht : (pc : Int) + off = (tgt : Int)) (pc' : Nat) (hp : pc + 3 = pc') (kt : 0 < x → Vz X k σ tgt lv st) (kf : ¬ 0 < x → Vz X k σ pc' lv st) : Vz X k σ pc lv (.int x :: st) := by
  subst hp; exact fun H locs ls hW hS hl => lv_if_gt C.1 C.2.1 d ht (fun h => kt h H locs ls hW hS hl) (fun h => kf h H locs ls hW hS hl)
theorem z_if_le (C : Ok X cc nL own rm ret) {x : Int32} {off : Int} (d : decode cc pc = .ok (.ifCond .le off, 3)) (tgt : Nat) (ht : (pc : Int) + off = (tgt : Int)) (pc' : Nat) (hp : pc + 3 = pc') (kt : x ≤ 0 → Vz X k σ tgt lv st) (kf : ¬ x ≤ 0 → Vz X k σ pc' lv st) : Vz X k σ pc lv (.int x :: st) := by
  subst hp; exact fun H locs ls hW hS hl => lv_if_le C.1 C.2.1 d ht (fun h => kt h H locs ls hW hS hl) (fun h => kf h H locs ls hW hS hl)
theorem z_icmp_eq (C : Ok X cc nL own rm ret) {x y : Int32} {off : Int} (d : decode cc pc = .ok (.if_icmp .eq off, 3)) (tgt : Nat) (ht : (pc : Int) + off = (tgt : Int)) (pc' : Nat) (hp : pc + 3 = pc') (kt : x = y → Vz X k σ tgt lv st) (kf : ¬ x = y → Vz X k σ pc' lv st) : Vz X k σ pc lv (.int y :: .int x :: st) := by
  subst hp; exact fun H locs ls hW hS hl => lv_icmp_eq C.1 C.2.1 d ht (fun h => kt h H locs ls hW hS hl) (fun h => kf h H locs ls hW hS hl)
theorem z_icmp_ne (C : Ok X cc nL own rm ret) {x y : Int32} {off : Int} (d : decode cc pc = .ok (.if_icmp .ne off, 3)) (tgt : Nat) (ht : (pc : Int) + off = (tgt : Int)) (pc' : Nat) (hp : pc + 3 = pc') (kt : ¬ x = y → Vz X k σ tgt lv st) (kf : x = y → Vz X k σ pc' lv st) : Vz X k σ pc lv (.int y :: .int x :: st) := by
  subst hp; exact fun H locs ls hW hS hl => lv_icmp_ne C.1 C.2.1 d ht (fun h => kt h H locs ls hW hS hl) (fun h => kf h H locs ls hW hS hl)
theorem z_icmp_lt (C : Ok X cc nL own rm ret) {x y : Int32} {off : Int} (d : decode cc pc = .ok (.if_icmp .lt off, 3)) (tgt : Nat) (ht : (pc : Int) + off = (tgt : Int)) (pc' : Nat) (hp : pc + 3 = pc') (kt : x < y → Vz X k σ tgt lv st) (kf : ¬ x < y → Vz X k σ pc' lv st) : Vz X k σ pc lv (.int y :: .int x :: st) := by
  subst hp; exact fun H locs ls hW hS hl => lv_icmp_lt C.1 C.2.1 d ht (fun h => kt h H locs ls hW hS hl) (fun h => kf h H locs ls hW hS hl)
theorem z_icmp_ge (C : Ok X cc nL own rm ret) {x y : Int32} {off : Int} (d : decode cc pc = .ok (.if_icmp .ge off, 3)) (tgt : Nat) (ht : (pc : Int) + off = (tgt : Int)) (pc' : Nat) (hp : pc + 3 = pc') (kt : y ≤ x → Vz X k σ tgt lv st) (kf : ¬ y ≤ x → Vz X k σ pc' lv st) : Vz X k σ pc lv (.int y :: .int x :: st) := by
  subst hp; exact fun H locs ls hW hS hl => lv_icmp_ge C.1 C.2.1 d ht (fun h => kt h H locs ls hW hS hl) (fun h => kf h H locs ls hW hS hl)
theorem z_icmp_gt (C : Ok X cc nL own rm ret) {x y : Int32} {off : Int} (d : decode cc pc = .ok (.if_icmp .gt off, 3)) (tgt : Nat) (ht : (pc : Int) + off = (tgt : Int)) (pc' : Nat) (hp : pc + 3 = pc') (kt : y < x → Vz X k σ tgt lv st) (kf : ¬ y < x → Vz X k σ pc' lv st) : Vz X k σ pc lv (.int y :: .int x :: st) := by
  subst hp; exact fun H locs ls hW hS hl => lv_icmp_gt C.1 C.2.1 d ht (fun h => kt h H locs ls hW hS hl) (fun h => kf h H locs ls hW hS hl)
theorem z_icmp_le (C : Ok X cc nL own rm ret) {x y : Int32} {off : Int} (d : decode cc pc = .ok (.if_icmp .le off, 3)) (tgt : Nat) (ht : (pc : Int) + off = (tgt : Int)) (pc' : Nat) (hp : pc + 3 = pc') (kt : x ≤ y → Vz X k σ tgt lv st) (kf : ¬ x ≤ y → Vz X k σ pc' lv st) : Vz X k σ pc lv (.int y :: .int x :: st) := by
  subst hp; exact fun H locs ls hW hS hl => lv_icmp_le C.1 C.2.1 d ht (fun h => kt h H locs ls hW hS hl) (fun h => kf h H locs ls hW hS hl)
theorem z_goto (C : Ok X cc nL own rm ret) {off : Int} (d : decode cc pc = .ok (.goto off, 3)) (tgt : Nat) (ht : (pc : Int) + off = (tgt : Int)) (kk : Vz X k σ tgt lv st) : Vz X k σ pc lv st := fun H locs ls hW hS hl => lv_goto C.1 C.2.1 d ht (kk H locs ls hW hS hl)
theorem z_tableOut (C : Ok X cc nL own rm ret) {dflt lo hi : Int} {offs : Array Int} {len : Nat} {x : Int32} (d : decode cc pc = .ok (.tableswitch dflt lo hi offs, len)) (h : x.toInt < lo ∨ hi < x.toInt) (tgt : Nat) (ht : (pc : Int) + dflt = (tgt : Int)) (kk : Vz X k σ tgt lv st) : Vz X k σ pc lv (.int x :: st) := fun H locs ls hW hS hl => lv_tableOut C.1 C.2.1 d h ht (kk H locs ls hW hS hl)
theorem z_tableIn (C : Ok X cc nL own rm ret) {dflt lo hi : Int} {offs : Array Int} {len : Nat} {x : Int32} {off : Int} (d : decode cc pc = .ok (.tableswitch dflt lo hi offs, len)) (h1 : ¬ x.toInt < lo) (h2 : ¬ hi < x.toInt) (ho : offs[(x.toInt - lo).toNat]? = some off) (tgt : Nat) (ht : (pc : Int) + off = (tgt : Int)) (kk : Vz X k σ tgt lv st) : Vz X k σ pc lv (.int x :: st) := fun H locs ls hW hS hl => lv_tableIn C.1 C.2.1 d h1 h2 ho ht (kk H locs ls hW hS hl)
theorem z_get (C : Ok X cc nL own rm ret) {idx ci j N q : Nat} {Cn : String} {T : u_T} {ty : Nat → FieldType} {v : Value} (d : decode cc pc = .ok (.getfield idx, 3)) (pc' : Nat) (hp : pc + 3 = pc') (hc : xCls ci Cn T N ty) (hj : Nat.blt j N = true) (hl : Cond.fieldLink own idx Cn (T j).2.1 (T j).2.2.1 ∈ gt) (hv : rdF σ q ci j = some v) (kk : Vz X k σ pc' lv (v :: st)) : Vz X k σ pc lv (.ref q :: st) := by
  subst hp
  intro H locs ls hW hS hlv
  obtain ⟨fs, h1, h2⟩ := rdF_some hv
  obtain ⟨ws, hP, hD, hw⟩ := id hW
  obtain ⟨i, hi⟩ := hw q _ h1
  have hjN : j < N := Nat.le_of_ble_eq_true hj
  exact va_get C.1 C.2.1 C.2.2.2.2.1 hc.2.1 C.2.2.2.1 C.2.2.2.2.2.2.2.1 hP i hi hc.1 j hjN (C.2.2.2.2.1 _ hl) (fun x h => by rw [hc.2.2.2.2 j hjN] at h; exact h) h2 d (kk H locs ls hW hS hlv)
theorem z_put (C : Ok X cc nL own rm ret) {idx ci j N q : Nat} {Cn : String} {T : u_T} {ty : Nat → FieldType} {v : Value} (d : decode cc pc = .ok (.putfield idx, 3)) (pc' : Nat) (hp : pc + 3 = pc') (hc : xCls ci Cn T N ty) (hj : Nat.blt j N = true) (hl : Cond.fieldLink own idx Cn (T j).2.1 (T j).2.2.1 ∈ gt) (hfin : (T j).2.2.2 = false) (hn : narrow (ty j) v = v) (hfit : fits (ty j) v = true) (hv : wrF σ q ci j v = some σ') (kk : Vz X k σ' pc' lv st) : Vz X k σ pc lv (v :: .ref q :: st) := by
  subst hp
  intro H locs ls hW hS hlv
  obtain ⟨fs, h1, h2, rfl⟩ := wrF_some hv
  obtain ⟨ws, hP, hD, hw⟩ := id hW
  obtain ⟨i, hi⟩ := hw q _ h1
  have hjN : j < N := Nat.le_of_ble_eq_true hj
  exact va_put C.1 C.2.1 C.2.2.2.2.1 hc.2.1 ty hc.2.2.1 hc.2.2.2.1 C.2.2.2.1 C.2.2.2.2.2.2.2.1 hP hD (x_self hS) i hi hc.1 j hjN (C.2.2.2.2.1 _ hl) (fun x h => by rw [hc.2.2.2.2 j hjN] at h; exact h) hfin (hc.2.2.1 j hjN) hn hfit h2 d
    (fun H1 locs1 hP1 hD1 hS1 => z_after kk hS hS1 (Wd_set (e' := .inr (ci, fs.set j v)) hw hD hi hP1 hD1) hlv)
theorem z_iaload (C : Ok X cc nL own rm ret) {q : Nat} {i v : Int32} (d : decode cc pc = .ok (.iaload, 1)) (pc' : Nat) (hp : pc + 1 = pc') (hv : aI σ q 0 i = some v) (kk : Vz X k σ pc' lv (.int v :: st)) : Vz X k σ pc lv (.int i :: .ref q :: st) := by
  subst hp
  intro H locs ls hW hS hlv
  obtain ⟨n, f, h1, h2, rfl⟩ := aI_some hv
  obtain ⟨ws, hP, hD, hw⟩ := id hW
  obtain ⟨i0, hi⟩ := hw q _ h1
  exact va_iald C.1 C.2.1 C.2.2.2.2.2.2.2.1 hP i0 0 hi rfl h2 d (kk H locs ls hW hS hlv)
theorem z_baload (C : Ok X cc nL own rm ret) {q : Nat} {i v : Int32} (d : decode cc pc = .ok (.baload, 1)) (pc' : Nat) (hp : pc + 1 = pc') (hv : aI σ q 2 i = some v) (kk : Vz X k σ pc' lv (.int v :: st)) : Vz X k σ pc lv (.int i :: .ref q :: st) := by
  subst hp
  intro H locs ls hW hS hlv
  obtain ⟨n, f, h1, h2, rfl⟩ := aI_some hv
  obtain ⟨ws, hP, hD, hw⟩ := id hW
  obtain ⟨i0, hi⟩ := hw q _ h1
  exact va_bald C.1 C.2.1 C.2.2.2.2.2.2.2.1 hP i0 2 hi rfl h2 d (kk H locs ls hW hS hlv)
theorem z_laload (C : Ok X cc nL own rm ret) {q : Nat} {i : Int32} {v : Int64} (d : decode cc pc = .ok (.laload, 1)) (pc' : Nat) (hp : pc + 1 = pc') (hv : aL σ q i = some v) (kk : Vz X k σ pc' lv (.long v :: st)) : Vz X k σ pc lv (.int i :: .ref q :: st) := by
  subst hp
  intro H locs ls hW hS hlv
  obtain ⟨n, f, h1, h2, rfl⟩ := aL_some hv
  obtain ⟨ws, hP, hD, hw⟩ := id hW
  obtain ⟨i0, hi⟩ := hw q _ h1
  exact va_lald C.1 C.2.1 C.2.2.2.2.2.2.2.1 hP i0 1 hi rfl h2 d (kk H locs ls hW hS hlv)
theorem z_aaload (C : Ok X cc nL own rm ret) {q : Nat} {i : Int32} {v : Nat} (d : decode cc pc = .ok (.aaload, 1)) (pc' : Nat) (hp : pc + 1 = pc') (hv : aR σ q i = some v) (kk : Vz X k σ pc' lv (.ref v :: st)) : Vz X k σ pc lv (.int i :: .ref q :: st) := by
  subst hp
  intro H locs ls hW hS hlv
  obtain ⟨n, f, h1, h2, h3⟩ := aR_some hv
  obtain ⟨ws, hP, hD, hw⟩ := id hW
  obtain ⟨i0, hi⟩ := hw q _ h1
  refine va_aldq C.1 C.2.1 C.2.2.2.2.2.2.2.1 hP i0 3 hi rfl h2 d ?_
  rw [h3]
  exact kk H locs ls hW hS hlv
theorem z_iastore (C : Ok X cc nL own rm ret) {q : Nat} {i v : Int32} (d : decode cc pc = .ok (.iastore, 1)) (pc' : Nat) (hp : pc + 1 = pc') (hv : sI σ q i v = some σ') (kk : Vz X k σ' pc' lv st) : Vz X k σ pc lv (.int v :: .int i :: .ref q :: st) := by
  subst hp
  intro H locs ls hW hS hlv
  obtain ⟨n, f, h1, h2, rfl⟩ := sI_some hv
  obtain ⟨ws, hP, hD, hw⟩ := id hW
  obtain ⟨i0, hi⟩ := hw q _ h1
  exact va_iast C.1 C.2.1 C.2.2.2.2.2.2.2.1 hP hD (x_self hS) i0 0 hi rfl h2 d (fun H1 locs1 hP1 hD1 hS1 => z_after kk hS hS1 (Wd_set (e' := .inl (0, n, .inl (upd f i.toNatClampNeg v))) hw hD hi hP1 hD1) hlv)
theorem z_bastore (C : Ok X cc nL own rm ret) {q : Nat} {i v : Int32} (d : decode cc pc = .ok (.bastore, 1)) (pc' : Nat) (hp : pc + 1 = pc') (hv : sB σ q i v = some σ') (kk : Vz X k σ' pc' lv st) : Vz X k σ pc lv (.int v :: .int i :: .ref q :: st) := by
  subst hp
  intro H locs ls hW hS hlv
  obtain ⟨n, f, h1, h2, rfl⟩ := sB_some hv
  obtain ⟨ws, hP, hD, hw⟩ := id hW
  obtain ⟨i0, hi⟩ := hw q _ h1
  exact va_bast C.1 C.2.1 C.2.2.2.2.2.2.2.1 hP hD (x_self hS) i0 2 hi rfl h2 d (fun H1 locs1 hP1 hD1 hS1 => z_after kk hS hS1 (Wd_set (e' := .inl (2, n, .inl (upd f i.toNatClampNeg (vp_nar .byte v)))) hw hD hi hP1 hD1) hlv)
theorem z_lastore (C : Ok X cc nL own rm ret) {q : Nat} {i : Int32} {v : Int64} (d : decode cc pc = .ok (.lastore, 1)) (pc' : Nat) (hp : pc + 1 = pc') (hv : sL σ q i v = some σ') (kk : Vz X k σ' pc' lv st) : Vz X k σ pc lv (.long v :: .int i :: .ref q :: st) := by
  subst hp
  intro H locs ls hW hS hlv
  obtain ⟨n, f, h1, h2, rfl⟩ := sL_some hv
  obtain ⟨ws, hP, hD, hw⟩ := id hW
  obtain ⟨i0, hi⟩ := hw q _ h1
  exact va_last C.1 C.2.1 C.2.2.2.2.2.2.2.1 hP hD (x_self hS) i0 1 hi rfl h2 d (fun H1 locs1 hP1 hD1 hS1 => z_after kk hS hS1 (Wd_set (e' := .inl (1, n, .inr (.inl (vp_updL f i.toNatClampNeg v)))) hw hD hi hP1 hD1) hlv)
theorem z_alen (C : Ok X cc nL own rm ret) {q : Nat} {v : Int32} (d : decode cc pc = .ok (.arraylength, 1)) (pc' : Nat) (hp : pc + 1 = pc') (hv : alen σ q = some v) (kk : Vz X k σ pc' lv (.int v :: st)) : Vz X k σ pc lv (.ref q :: st) := by
  subst hp
  intro H locs ls hW hS hlv
  obtain ⟨⟨kd, n, x⟩, h1, h4, h2⟩ := alen_some hv
  obtain ⟨ws, hP, hD, hw⟩ := id hW
  obtain ⟨i0, hi⟩ := hw q _ h1
  have h4 : kd < 4 := h4
  match kd, h4, hi with
  | 0, _, hi => exact va_alen C.1 C.2.1 C.2.2.2.2.2.2.2.1 hP i0 0 hi rfl h2 d (kk H locs ls hW hS hlv)
  | 1, _, hi => exact va_alen C.1 C.2.1 C.2.2.2.2.2.2.2.1 hP i0 1 hi rfl h2 d (kk H locs ls hW hS hlv)
  | 2, _, hi => exact va_alen C.1 C.2.1 C.2.2.2.2.2.2.2.1 hP i0 2 hi rfl h2 d (kk H locs ls hW hS hlv)
  | 3, _, hi => exact va_alen C.1 C.2.1 C.2.2.2.2.2.2.2.1 hP i0 3 hi rfl h2 d (kk H locs ls hW hS hlv)
theorem z_copyI (C : Ok X cc nL own rm ret) {idx a0 a : Nat} {sp dp n : Int32} (d : decode cc pc = .ok (.invokestatic idx, 3)) (pc' : Nat) (hp : pc + 3 = pc') (hl : Cond.methodLink own idx arraycopyName ∈ gt) (hw1 : Cond.native arraycopyName ∈ gt ∧ Cond.static arraycopyName ∈ gt ∧ Cond.initialized "java/lang/System" ∈ gt) (hR : 1 ≤ rm.frames ∧ (st.map fun v => v.category).sum + (nativeFrameWords "java/lang/System" "arraycopy" 5 + 11) ≤ rm.locals) (hv : acI σ a0 sp a dp n = some σ') (kk : Vz X k σ' pc' lv st) : Vz X k σ pc lv (.int n :: .int dp :: .ref a :: .int sp :: .ref a0 :: st) := by
  subst hp
  intro H locs ls hW hS hlv
  obtain ⟨⟨n0, f⟩, h1, h2⟩ := x_bind hv
  obtain ⟨⟨n1, g⟩, h3, h4⟩ := x_bind h2
  split at h4
  · cases h4
  · rename_i hc
    cases h4
    obtain ⟨ws, hP, hD, hw⟩ := id hW
    obtain ⟨i0, hi0⟩ := hw a0 _ (arI_some h1)
    obtain ⟨i1, hi1⟩ := hw a _ (arI_some h3)
    have c1 : ¬ sp < 0 := fun h => hc (Or.inl h)
    have c2 : ¬ dp < 0 := fun h => hc (Or.inr (Or.inl h))
    have c3 : ¬ n < 0 := fun h => hc (Or.inr (Or.inr (Or.inl h)))
    have c4 : sp.toNatClampNeg + n.toNatClampNeg ≤ n0 := Nat.not_lt.mp (fun h => hc (Or.inr (Or.inr (Or.inr (Or.inl h)))))
    have c5 : dp.toNatClampNeg + n.toNatClampNeg ≤ n1 := Nat.not_lt.mp (fun h => hc (Or.inr (Or.inr (Or.inr (Or.inr h)))))
    have hts := C.2.2.2.2.1
    refine va_copyi C.1 C.2.1 (by rw [C.2.2.1.1, hlv.1, C.2.2.1.2]) C.2.2.2.1 (hts _ hl) (hts _ hw1.1) (hts _ hw1.2.1) (hts _ hw1.2.2) C.2.2.2.2.2.2.2.1 hP hD (x_self hS) i0 i1 0 0 hi0 hi1 rfl rfl rfl c1 c2 c3 c4 c5 (fun _ _ => rfl) (by rw [C.2.2.2.2.2.2.1]; exact hR.1) (by rw [C.2.2.2.2.2.2.1]; exact hR.2) d
      (fun H1 locs1 hP1 hD1 hS1 => z_after kk hS hS1 (Wd_set (e' := .inl (0, n1, .inl (va_cpy f g sp.toNatClampNeg dp.toNatClampNeg n.toNatClampNeg))) hw hD hi1 hP1 hD1) hlv)
theorem z_copyL (C : Ok X cc nL own rm ret) {idx a0 a : Nat} {sp dp n : Int32} (d : decode cc pc = .ok (.invokestatic idx, 3)) (pc' : Nat) (hp : pc + 3 = pc') (hl : Cond.methodLink own idx arraycopyName ∈ gt) (hw1 : Cond.native arraycopyName ∈ gt ∧ Cond.static arraycopyName ∈ gt ∧ Cond.initialized "java/lang/System" ∈ gt) (hR : 1 ≤ rm.frames ∧ (st.map fun v => v.category).sum + (nativeFrameWords "java/lang/System" "arraycopy" 5 + 11) ≤ rm.locals) (hv : acL σ a0 sp a dp n = some σ') (kk : Vz X k σ' pc' lv st) : Vz X k σ pc lv (.int n :: .int dp :: .ref a :: .int sp :: .ref a0 :: st) := by
  subst hp
  intro H locs ls hW hS hlv
  obtain ⟨⟨n0, f⟩, h1, h2⟩ := x_bind hv
  obtain ⟨⟨n1, g⟩, h3, h4⟩ := x_bind h2
  split at h4
  · cases h4
  · rename_i hc
    cases h4
    obtain ⟨ws, hP, hD, hw⟩ := id hW
    obtain ⟨i0, hi0⟩ := hw a0 _ (arL_some h1)
    obtain ⟨i1, hi1⟩ := hw a _ (arL_some h3)
    have c1 : ¬ sp < 0 := fun h => hc (Or.inl h)
    have c2 : ¬ dp < 0 := fun h => hc (Or.inr (Or.inl h))
    have c3 : ¬ n < 0 := fun h => hc (Or.inr (Or.inr (Or.inl h)))
    have c4 : sp.toNatClampNeg + n.toNatClampNeg ≤ n0 := Nat.not_lt.mp (fun h => hc (Or.inr (Or.inr (Or.inr (Or.inl h)))))
    have c5 : dp.toNatClampNeg + n.toNatClampNeg ≤ n1 := Nat.not_lt.mp (fun h => hc (Or.inr (Or.inr (Or.inr (Or.inr h)))))
    have hts := C.2.2.2.2.1
    refine va_copyl C.1 C.2.1 (by rw [C.2.2.1.1, hlv.1, C.2.2.1.2]) C.2.2.2.1 (hts _ hl) (hts _ hw1.1) (hts _ hw1.2.1) (hts _ hw1.2.2) C.2.2.2.2.2.2.2.1 hP hD (x_self hS) i0 i1 1 1 hi0 hi1 rfl rfl rfl c1 c2 c3 c4 c5 (fun _ _ => rfl) (by rw [C.2.2.2.2.2.2.1]; exact hR.1) (by rw [C.2.2.2.2.2.2.1]; exact hR.2) d
      (fun H1 locs1 hP1 hD1 hS1 => z_after kk hS hS1 (Wd_set (e' := .inl (1, n1, .inr (.inl (va_cpy f g sp.toNatClampNeg dp.toNatClampNeg n.toNatClampNeg)))) hw hD hi1 hP1 hD1) hlv)
theorem z_callS (C : Ok X cc nL own rm ret) {idx n na : Nat} {y : MethodName} {b : ByteArray} {r : Option FieldType} {rm' : Room} {as stk : List Value} {v : Option Value} (d : decode cc pc = .ok (.invokestatic idx, 3)) (pc' : Nat) (hp : pc + 3 = pc') (hM : Con (xl X) y (xws y b n r) rm' as (xGd X) (xA X) σ v σ') (hy : xCal y b n r na) (hst : Cond.static y ∈ gt) (hl : Cond.methodLink own idx y ∈ gt)
    (hrm : rm'.cells = 0 ∧ rm'.slots = 0) (hR : rm'.frames + 1 ≤ rm.frames ∧ 8 + (n + 11) + rm'.locals ≤ rm.locals) (hk : k.1 ≤ rm.cells ∧ k.2 ≤ rm.slots) (hna : as.length = na) (hstk : stk = as.reverse ++ st) (hcat : (st.map fun v => v.category).sum ≤ 8) (kk : Vz X k σ' pc' lv (v.toList ++ st)) : Vz X k σ pc lv stk := by
  subst hp; subst hstk
  intro H locs ls hW hS hlv
  have hts := C.2.2.2.2.1
  have hRR := C.2.2.2.2.2.2.1
  refine z_run (v := v) (σ' := σ') (as := as) (va_runS (As := as) (rest := st) ⟨C.1, C.2.1, C.2.2.1.1, C.2.2.2.1, hts⟩ hM ⟨callB_of na hts (good_xws hy.1) rfl hrm.1 hrm.2 (hts _ hy.2.1) (hts _ hl) hy.2.2 (by rw [hRR]; exact hR), hts _ hst⟩ ⟨x_blind, x_pre C hW hS⟩ rfl hna (by show ls.size = _; rw [hlv.1, C.2.2.1.2]) rfl (lv_room hcat) d (by rw [hRR]; exact hk)) hS hlv kk
theorem z_callV (C : Ok X cc nL own rm ret) {idx n na q ci N : Nat} {y : MethodName} {b : ByteArray} {r : Option FieldType} {rm' : Room} {as stk : List Value} {v : Option Value} {Cn : String} {T : u_T} {u : Unit} (d : decode cc pc = .ok (.invokevirtual idx, 3)) (pc' : Nat) (hp : pc + 3 = pc') (ho : isO σ q ci = some u) (hci : x_cl[ci]? = some (Cn, T, N)) (hCn : Cn = y.cls) (hM : Con (xl X) y (xws y b n r) rm' (.ref q :: as) (xGd X) (xA X) σ v σ') (hy : xCal y b n r na) (hst : Cond.instanceMethod y ∈ gt ∧ Cond.selects y.cls y y ∈ gt) (hl : Cond.methodLink own idx y ∈ gt)
    (hrm : rm'.cells = 0 ∧ rm'.slots = 0) (hR : rm'.frames + 1 ≤ rm.frames ∧ 8 + (n + 11) + rm'.locals ≤ rm.locals) (hk : k.1 ≤ rm.cells ∧ k.2 ≤ rm.slots) (hna : as.length = na) (hstk : stk = as.reverse ++ .ref q :: st) (hcat : (st.map fun v => v.category).sum ≤ 8) (kk : Vz X k σ' pc' lv (v.toList ++ st)) : Vz X k σ pc lv stk := by
  subst hp; subst hstk; subst hCn
  intro H locs ls hW hS hlv
  have hts := C.2.2.2.2.1
  have hRR := C.2.2.2.2.2.2.1
  obtain ⟨fs, h1⟩ := isO_some ho
  obtain ⟨ws, hP, hD, hw⟩ := id hW
  obtain ⟨i0, hi⟩ := hw q _ h1
  refine z_run (v := v) (σ' := σ') (as := .ref q :: as) (va_runV (C := y.cls) (As := as) (rest := st) ⟨C.1, C.2.1, C.2.2.1.1, C.2.2.2.1, hts⟩ hM ⟨callB_of na hts (good_xws hy.1) rfl hrm.1 hrm.2 (hts _ hy.2.1) (hts _ hl) hy.2.2 (by rw [hRR]; exact hR), hts _ hst.1, hts _ hst.2⟩ ⟨x_blind, va_recv C.2.2.2.2.2.2.2.1 hP hci hi, x_pre C hW hS⟩ rfl hna (by show ls.size = _; rw [hlv.1, C.2.2.1.2]) rfl (lv_room hcat) d (by rw [hRR]; exact hk)) hS hlv kk
theorem z_getI (C : Ok X cc nL own rm ret) {idx ci j N q : Nat} {Cn : String} {T : u_T} {ty : Nat → FieldType} {v : Int32} (d : decode cc pc = .ok (.getfield idx, 3)) (pc' : Nat) (hp : pc + 3 = pc') (hv : gI σ q ci j = some v) (hc : xCls ci Cn T N ty) (hj : Nat.blt j N = true) (hl : Cond.fieldLink own idx Cn (T j).2.1 (T j).2.2.1 ∈ gt) (kk : Vz X k σ pc' lv (.int v :: st)) : Vz X k σ pc lv (.ref q :: st) := z_get C d pc' hp hc hj hl (gI_some hv) kk
theorem z_getL (C : Ok X cc nL own rm ret) {idx ci j N q : Nat} {Cn : String} {T : u_T} {ty : Nat → FieldType} {v : Int64} (d : decode cc pc = .ok (.getfield idx, 3)) (pc' : Nat) (hp : pc + 3 = pc') (hv : gL σ q ci j = some v) (hc : xCls ci Cn T N ty) (hj : Nat.blt j N = true) (hl : Cond.fieldLink own idx Cn (T j).2.1 (T j).2.2.1 ∈ gt) (kk : Vz X k σ pc' lv (.long v :: st)) : Vz X k σ pc lv (.ref q :: st) := z_get C d pc' hp hc hj hl (gL_some hv) kk
theorem z_getR (C : Ok X cc nL own rm ret) {idx ci j N q : Nat} {Cn : String} {T : u_T} {ty : Nat → FieldType} {v : Nat} (d : decode cc pc = .ok (.getfield idx, 3)) (pc' : Nat) (hp : pc + 3 = pc') (hv : gR σ q ci j = some v) (hc : xCls ci Cn T N ty) (hj : Nat.blt j N = true) (hl : Cond.fieldLink own idx Cn (T j).2.1 (T j).2.2.1 ∈ gt) (kk : Vz X k σ pc' lv (.ref v :: st)) : Vz X k σ pc lv (.ref q :: st) := z_get C d pc' hp hc hj hl (gR_some hv) kk
theorem z_putX (C : Ok X cc nL own rm ret) {idx ci j N q : Nat} {Cn : String} {T : u_T} {ty : Nat → FieldType} {v : Value} (d : decode cc pc = .ok (.putfield idx, 3)) (pc' : Nat) (hp : pc + 3 = pc') (hv : wrF σ q ci j v = some σ') (hc : xCls ci Cn T N ty) (hj : Nat.blt j N = true) (hl : Cond.fieldLink own idx Cn (T j).2.1 (T j).2.2.1 ∈ gt) (hfin : (T j).2.2.2 = false) (hn : narrow (ty j) v = v) (hfit : fits (ty j) v = true) (kk : Vz X k σ' pc' lv st) : Vz X k σ pc lv (v :: .ref q :: st) := z_put C d pc' hp hc hj hl hfin hn hfit hv kk
theorem z_mmin (C : Ok X cc nL own rm ret) {idx : Nat} {x y : Int32} (d : decode cc pc = .ok (.invokestatic idx, 3)) (pc' : Nat) (hp : pc + 3 = pc') (hl : Cond.methodLink own idx Lib.Math.min.name ∈ gt) (hw : Cond.static Lib.Math.min.name ∈ gt ∧ Cond.initialized "java/lang/Math" ∈ gt ∧ Cond.code Lib.Math.min.name Lib.Math.min.code 2 (some .int) ∈ gt) (hR : 1 ≤ rm.frames ∧ (st.map fun v => v.category).sum + 13 ≤ rm.locals) (hk : k.1 ≤ rm.cells ∧ k.2 ≤ rm.slots) (kk : Vz X k σ pc' lv (.int (imin x y) :: st)) : Vz X k σ pc lv (.int y :: .int x :: st) := by
  subst hp
  intro H locs ls hW hS hlv
  have hts := C.2.2.2.2.1
  have hRR := C.2.2.2.2.2.2.1
  exact va_mmin C.1 C.2.1 (by rw [C.2.2.1.1, hlv.1, C.2.2.1.2]) C.2.2.2.1 (hts _ hl) (hts _ hw.1) (hts _ hw.2.1) (hts _ hw.2.2) (by rw [hRR]; exact hR.1) (by rw [hRR]; exact hR.2) (by rw [hRR]; exact hk.1) (by rw [hRR]; exact hk.2) d (kk H locs ls hW hS hlv)
theorem z_mmax (C : Ok X cc nL own rm ret) {idx : Nat} {x y : Int32} (d : decode cc pc = .ok (.invokestatic idx, 3)) (pc' : Nat) (hp : pc + 3 = pc') (hl : Cond.methodLink own idx Lib.Math.max.name ∈ gt) (hw : Cond.static Lib.Math.max.name ∈ gt ∧ Cond.initialized "java/lang/Math" ∈ gt ∧ Cond.code Lib.Math.max.name Lib.Math.max.code 2 (some .int) ∈ gt) (hR : 1 ≤ rm.frames ∧ (st.map fun v => v.category).sum + 13 ≤ rm.locals) (hk : k.1 ≤ rm.cells ∧ k.2 ≤ rm.slots) (kk : Vz X k σ pc' lv (.int (imax x y) :: st)) : Vz X k σ pc lv (.int y :: .int x :: st) := by
  subst hp
  intro H locs ls hW hS hlv
  have hts := C.2.2.2.2.1
  have hRR := C.2.2.2.2.2.2.1
  exact va_mmax C.1 C.2.1 (by rw [C.2.2.1.1, hlv.1, C.2.2.1.2]) C.2.2.2.1 (hts _ hl) (hts _ hw.1) (hts _ hw.2.1) (hts _ hw.2.2) (by rw [hRR]; exact hR.1) (by rw [hRR]; exact hR.2) (by rw [hRR]; exact hk.1) (by rw [hRR]; exact hk.2) d (kk H locs ls hW hS hlv)
theorem z_callSi (C : Ok X cc nL own rm ret) {idx n na : Nat} {y : MethodName} {b : ByteArray} {r : Option FieldType} {rm' : Room} {as stk : List Value} {v : Int32} (d : decode cc pc = .ok (.invokestatic idx, 3)) (pc' : Nat) (hp : pc + 3 = pc') (hM : Con (xl X) y (xws y b n r) rm' as (xGd X) (xA X) σ (some (.int v)) σ') (hy : xCal y b n r na) (hst : Cond.static y ∈ gt) (hl : Cond.methodLink own idx y ∈ gt)
    (hrm : rm'.cells = 0 ∧ rm'.slots = 0) (hR : rm'.frames + 1 ≤ rm.frames ∧ 8 + (n + 11) + rm'.locals ≤ rm.locals) (hk : k.1 ≤ rm.cells ∧ k.2 ≤ rm.slots) (hna : as.length = na) (hstk : stk = as.reverse ++ st) (hcat : (st.map fun v => v.category).sum ≤ 8) (kk : Vz X k σ' pc' lv (.int v :: st)) : Vz X k σ pc lv stk := z_callS C d pc' hp hM hy hst hl hrm hR hk hna hstk hcat kk
theorem z_callSl (C : Ok X cc nL own rm ret) {idx n na : Nat} {y : MethodName} {b : ByteArray} {r : Option FieldType} {rm' : Room} {as stk : List Value} {v : Int64} (d : decode cc pc = .ok (.invokestatic idx, 3)) (pc' : Nat) (hp : pc + 3 = pc') (hM : Con (xl X) y (xws y b n r) rm' as (xGd X) (xA X) σ (some (.long v)) σ') (hy : xCal y b n r na) (hst : Cond.static y ∈ gt) (hl : Cond.methodLink own idx y ∈ gt)
    (hrm : rm'.cells = 0 ∧ rm'.slots = 0) (hR : rm'.frames + 1 ≤ rm.frames ∧ 8 + (n + 11) + rm'.locals ≤ rm.locals) (hk : k.1 ≤ rm.cells ∧ k.2 ≤ rm.slots) (hna : as.length = na) (hstk : stk = as.reverse ++ st) (hcat : (st.map fun v => v.category).sum ≤ 8) (kk : Vz X k σ' pc' lv (.long v :: st)) : Vz X k σ pc lv stk := z_callS C d pc' hp hM hy hst hl hrm hR hk hna hstk hcat kk
theorem z_callSv (C : Ok X cc nL own rm ret) {idx n na : Nat} {y : MethodName} {b : ByteArray} {r : Option FieldType} {rm' : Room} {as stk : List Value} (d : decode cc pc = .ok (.invokestatic idx, 3)) (pc' : Nat) (hp : pc + 3 = pc') (hM : Con (xl X) y (xws y b n r) rm' as (xGd X) (xA X) σ none σ') (hy : xCal y b n r na) (hst : Cond.static y ∈ gt) (hl : Cond.methodLink own idx y ∈ gt)
    (hrm : rm'.cells = 0 ∧ rm'.slots = 0) (hR : rm'.frames + 1 ≤ rm.frames ∧ 8 + (n + 11) + rm'.locals ≤ rm.locals) (hk : k.1 ≤ rm.cells ∧ k.2 ≤ rm.slots) (hna : as.length = na) (hstk : stk = as.reverse ++ st) (hcat : (st.map fun v => v.category).sum ≤ 8) (kk : Vz X k σ' pc' lv st) : Vz X k σ pc lv stk := z_callS C d pc' hp hM hy hst hl hrm hR hk hna hstk hcat kk
theorem z_callVi (C : Ok X cc nL own rm ret) {idx n na q ci N : Nat} {y : MethodName} {b : ByteArray} {r : Option FieldType} {rm' : Room} {as stk : List Value} {v : Int32} {Cn : String} {T : u_T} {u : Unit} (d : decode cc pc = .ok (.invokevirtual idx, 3)) (pc' : Nat) (hp : pc + 3 = pc') (ho : isO σ q ci = some u) (hci : x_cl[ci]? = some (Cn, T, N)) (hCn : Cn = y.cls) (hM : Con (xl X) y (xws y b n r) rm' (.ref q :: as) (xGd X) (xA X) σ (some (.int v)) σ') (hy : xCal y b n r na) (hst : Cond.instanceMethod y ∈ gt ∧ Cond.selects y.cls y y ∈ gt) (hl : Cond.methodLink own idx y ∈ gt)
    (hrm : rm'.cells = 0 ∧ rm'.slots = 0) (hR : rm'.frames + 1 ≤ rm.frames ∧ 8 + (n + 11) + rm'.locals ≤ rm.locals) (hk : k.1 ≤ rm.cells ∧ k.2 ≤ rm.slots) (hna : as.length = na) (hstk : stk = as.reverse ++ .ref q :: st) (hcat : (st.map fun v => v.category).sum ≤ 8) (kk : Vz X k σ' pc' lv (.int v :: st)) : Vz X k σ pc lv stk := z_callV C d pc' hp ho hci hCn hM hy hst hl hrm hR hk hna hstk hcat kk
theorem z_callVl (C : Ok X cc nL own rm ret) {idx n na q ci N : Nat} {y : MethodName} {b : ByteArray} {r : Option FieldType} {rm' : Room} {as stk : List Value} {v : Int64} {Cn : String} {T : u_T} {u : Unit} (d : decode cc pc = .ok (.invokevirtual idx, 3)) (pc' : Nat) (hp : pc + 3 = pc') (ho : isO σ q ci = some u) (hci : x_cl[ci]? = some (Cn, T, N)) (hCn : Cn = y.cls) (hM : Con (xl X) y (xws y b n r) rm' (.ref q :: as) (xGd X) (xA X) σ (some (.long v)) σ') (hy : xCal y b n r na) (hst : Cond.instanceMethod y ∈ gt ∧ Cond.selects y.cls y y ∈ gt) (hl : Cond.methodLink own idx y ∈ gt)
    (hrm : rm'.cells = 0 ∧ rm'.slots = 0) (hR : rm'.frames + 1 ≤ rm.frames ∧ 8 + (n + 11) + rm'.locals ≤ rm.locals) (hk : k.1 ≤ rm.cells ∧ k.2 ≤ rm.slots) (hna : as.length = na) (hstk : stk = as.reverse ++ .ref q :: st) (hcat : (st.map fun v => v.category).sum ≤ 8) (kk : Vz X k σ' pc' lv (.long v :: st)) : Vz X k σ pc lv stk := z_callV C d pc' hp ho hci hCn hM hy hst hl hrm hR hk hna hstk hcat kk
theorem z_callVv (C : Ok X cc nL own rm ret) {idx n na q ci N : Nat} {y : MethodName} {b : ByteArray} {r : Option FieldType} {rm' : Room} {as stk : List Value} {Cn : String} {T : u_T} {u : Unit} (d : decode cc pc = .ok (.invokevirtual idx, 3)) (pc' : Nat) (hp : pc + 3 = pc') (ho : isO σ q ci = some u) (hci : x_cl[ci]? = some (Cn, T, N)) (hCn : Cn = y.cls) (hM : Con (xl X) y (xws y b n r) rm' (.ref q :: as) (xGd X) (xA X) σ none σ') (hy : xCal y b n r na) (hst : Cond.instanceMethod y ∈ gt ∧ Cond.selects y.cls y y ∈ gt) (hl : Cond.methodLink own idx y ∈ gt)
    (hrm : rm'.cells = 0 ∧ rm'.slots = 0) (hR : rm'.frames + 1 ≤ rm.frames ∧ 8 + (n + 11) + rm'.locals ≤ rm.locals) (hk : k.1 ≤ rm.cells ∧ k.2 ≤ rm.slots) (hna : as.length = na) (hstk : stk = as.reverse ++ .ref q :: st) (hcat : (st.map fun v => v.category).sum ≤ 8) (kk : Vz X k σ' pc' lv st) : Vz X k σ pc lv stk := z_callV C d pc' hp ho hci hCn hM hy hst hl hrm hR hk hna hstk hcat kk
end XZ
