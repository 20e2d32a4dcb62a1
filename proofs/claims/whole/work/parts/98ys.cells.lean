/-! THE START: the heap made is the memory of the calls -/
def dvI (h : Nat) (vs : List Value) (j : Nat) : Int32 := match vs[j]? with
  | some (.int v) => v
  | some (.ref p) => if p = h + 276 then 1 else 0
  | _ => 0
def dvL (vs : List Value) (j : Nat) : Int64 := match vs[j]? with
  | some (.long v) => v
  | _ => 0
def dcI (h : Nat) (e : Nat → Option xE) (i : Nat) : Nat → Int32 := match e i with
  | some (.inl (_, _, .inl f)) => f
  | some (.inr (_, l)) => dvI h l
  | _ => fun _ => 0
def dcL (e : Nat → Option xE) (i : Nat) : Nat → Int64 := match e i with
  | some (.inl (_, _, .inr (.inl f))) => f
  | some (.inr (_, l)) => dvL l
  | _ => fun _ => 0
def dcM (h : Nat) (e : Nat → Option xE) : Mm := (dcI h e, dcL e)
def fvs (h : Nat) (vs : List Value) (j c : Nat) : Value := if c = 0 then .int (dvI h vs j) else if c = 1 then .long (dvL vs j) else if c = 999 then .ref (h + (275 + (dvI h vs j).toNatClampNeg)) else .ref (h + (c - 2))
def fvL (h : Nat) (vs : List Value) : Nat → List Nat → List Value
  | _, [] => []
  | j, c :: cs => fvs h vs j c :: fvL h vs (j + 1) cs
section CE
variable {h : Nat} {e : Nat → Option xE} {i k n ci : Nat}
theorem fvL_eq {vs : List Value} : ∀ (l : List Nat) (j0 : Nat), l.mapIdx (fun j c => fvs h vs (j0 + j) c) = fvL h vs j0 l
  | [], _ => rfl
  | c :: cs, j0 => by
    have e1 : (fun i c => fvs h vs (j0 + (i + 1)) c) = fun j c => fvs h vs (j0 + 1 + j) c := by
      funext j c
      rw [show j0 + (j + 1) = j0 + 1 + j by omega]
    rw [List.mapIdx_cons]
    exact congrArg (fun x => fvs h vs j0 c :: x) ((congrArg (fun F => List.mapIdx F cs) e1).trans (fvL_eq cs (j0 + 1)))
theorem dcI_o {vs : List Value} (he : e i = some (.inr (ci, vs))) : dcI h e i = dvI h vs := by
  unfold dcI; rw [he]
theorem dcL_o {vs : List Value} (he : e i = some (.inr (ci, vs))) : dcL e i = dvL vs := by
  unfold dcL; rw [he]
theorem dcI_a {f : Nat → Int32} (he : e i = some (.inl (k, n, .inl f))) : dcI h e i = f := by
  unfold dcI; rw [he]
theorem dcL_a {f : Nat → Int64} (he : e i = some (.inl (k, n, .inr (.inl f)))) : dcL e i = f := by
  unfold dcL; rw [he]
theorem cO {vs : List Value} {l : List Nat} (hs : sh i = .inr (ci, l)) (he : e i = some (.inr (ci, vs))) (hm : fvL h vs 0 l = vs) : e i = some (cell h (dcM h e) i) := by
  have e1 : (fun j c => fld h (dcM h e) i j c) = fun j c => fvs h vs (0 + j) c := by
    funext j c
    unfold fld fvs
    show (if c = 0 then Value.int (dcI h e i j) else if c = 1 then Value.long (dcL e i j) else if c = 999 then Value.ref (h + (275 + (dcI h e i j).toNatClampNeg)) else Value.ref (h + (c - 2))) = _
    rw [dcI_o he, dcL_o he, Nat.zero_add]
  rw [cell_o hs, he, e1, fvL_eq, hm]
theorem cI {f : Nat → Int32} (hs : sh i = .inl (k, n)) (he : e i = some (.inl (k, n, .inl f))) (hk : k ≠ 1 ∧ k ≠ 3) : e i = some (cell h (dcM h e) i) := by
  rw [cell_a hs, if_neg hk.1, if_neg hk.2, he]
  show _ = some (Sum.inl (k, n, Sum.inl (dcI h e i)))
  rw [dcI_a he]
theorem cL {f : Nat → Int64} (hs : sh i = .inl (1, n)) (he : e i = some (.inl (1, n, .inr (.inl f)))) : e i = some (cell h (dcM h e) i) := by
  rw [cell_a hs, if_pos rfl, he]
  show _ = some (Sum.inl (1, n, Sum.inr (Sum.inl (dcL e i))))
  rw [dcL_a he]
theorem c25 (he : e 25 = some (.inl (3, 20, .inr (.inr (.inr (.inr (rgF h 20))))))) : e 25 = some (cell h (dcM h e) 25) := by
  rw [cell_a (show sh 25 = .inl (3, 20) by decide +kernel), if_neg (by decide), if_pos rfl]; exact he
theorem fv_ref {vs : List Value} {j c : Nat} (h2 : 2 ≤ c) (h9 : c ≠ 999) : fvs h vs j c = .ref (h + (c - 2)) := by
  unfold fvs; rw [if_neg (by omega), if_neg (by omega), if_neg h9]
theorem rkc {r : Nat} (H : Rb r) (R : R8 h r e) : ∀ i, r ≤ i → i ≤ r + 5 → e i = some (cell h (dcM h e) i) := by
  intro i a b
  obtain ⟨H0, H1, H2, H3, H4, H5, H6⟩ := H
  obtain ⟨R0, R1, R2, ⟨f, R3, _⟩, ⟨g, R4, _⟩, R5⟩ := R
  rcases (by omega : i = r ∨ i = r + 1 ∨ i = r + 2 ∨ i = r + 3 ∨ i = r + 4 ∨ i = r + 5) with c | c | c | c | c | c
  · rw [c]
    refine cO H1 R0 ?_
    show [.int 2, .int 0, fvs h _ 2 (r + 1 + 2), fvs h _ 3 (r + 2 + 2), fvs h _ 4 (r + 3 + 2), fvs h _ 5 (r + 4 + 2), .int 1, fvs h _ 7 (r + 5 + 2), .int 0] = f8 h r
    rw [fv_ref (by omega) (by omega), fv_ref (by omega) (by omega), fv_ref (by omega) (by omega), fv_ref (by omega) (by omega), fv_ref (by omega) (by omega)]
    rfl
  · rw [c]; exact cL H2 R1
  · rw [c]; exact cL H3 R2
  · rw [c]; exact cI H4 R3 (by decide)
  · rw [c]; exact cI H5 R4 (by decide)
  · rw [c]; exact cI H6 R5 (by decide)
theorem dkc {d : Nat} (H : Hd d) (R : R2 h d e) : ∀ i, d ≤ i → i ≤ d + 10 → e i = some (cell h (dcM h e) i) := by
  intro i a b
  obtain ⟨H0, H1, H2, H3, H4, H5, H6⟩ := H
  obtain ⟨R0, R1, R3, R4, R5, R6⟩ := R
  rcases (by omega : i = d ∨ (d + 1 ≤ i ∧ i ≤ d + 1 + 5) ∨ i = d + 7 ∨ i = d + 8 ∨ i = d + 9 ∨ i = d + 10) with c | c | c | c | c | c
  · rw [c]
    refine cO H1 R0 ?_
    show [fvs h _ 0 (d + 1 + 2), fvs h _ 1 (d + 7 + 2), fvs h _ 2 (d + 8 + 2), fvs h _ 3 (d + 9 + 2), fvs h _ 4 (d + 10 + 2)] = f2 h d
    rw [fv_ref (by omega) (by omega), fv_ref (by omega) (by omega), fv_ref (by omega) (by omega), fv_ref (by omega) (by omega), fv_ref (by omega) (by omega)]
    rfl
  · exact rkc H2 R1 i c.1 c.2
  · rw [c]; exact cL H3 R3
  · rw [c]; exact cL H4 R4
  · rw [c]; exact cI H5 R5 (by decide)
  · rw [c]; exact cI H6 R6 (by decide)
theorem k272m : fvL h [.ref (h + 3), .ref (h + 273), .int 0, .ref (h + 274), .ref (h + 275), .ref (h + 276)] 0 [5, 275, 0, 276, 999, 999] = [.ref (h + 3), .ref (h + 273), .int 0, .ref (h + 274), .ref (h + 275), .ref (h + 276)] := by
  have a4 : dvI h [.ref (h + 3), .ref (h + 273), .int 0, .ref (h + 274), .ref (h + 275), .ref (h + 276)] 4 = 0 := by
    show (if h + 275 = h + 276 then (1 : Int32) else 0) = 0
    rw [if_neg (by omega)]
  have a5 : dvI h [.ref (h + 3), .ref (h + 273), .int 0, .ref (h + 274), .ref (h + 275), .ref (h + 276)] 5 = 1 := by
    show (if h + 276 = h + 276 then (1 : Int32) else 0) = 1
    rw [if_pos rfl]
  show ([.ref (h + 3), .ref (h + 273), .int 0, .ref (h + 274), .ref (h + (275 + (dvI h [.ref (h + 3), .ref (h + 273), .int 0, .ref (h + 274), .ref (h + 275), .ref (h + 276)] 4).toNatClampNeg)), .ref (h + (275 + (dvI h [.ref (h + 3), .ref (h + 273), .int 0, .ref (h + 274), .ref (h + 275), .ref (h + 276)] 5).toNatClampNeg))] : List Value) = _
  rw [a4, a5]
  rfl
set_option maxHeartbeats 4000000 in
theorem k246 (o : OB 246 7 [.ref (h + 247), .ref (h + 1), .int 0, .int 0, .int 0, .int 0] [] e) : ∀ i, 246 ≤ i → i ≤ 246 → e i = some (cell h (dcM h e) i) := by
  intro i a b
  have c : i = 246 := by omega
  · rw [c]; exact cO sh_246 o.1 rfl
set_option maxHeartbeats 4000000 in
theorem k253 (o : OB 253 9 [.ref (h + 3), .ref (h + 254), .ref (h + 255), .int 0, .int 0] [.inl (1, 61, .inr (.inl (fun _ => 0))), .inl (0, 60, .inl (fun _ => 0))] e) : ∀ i, 253 ≤ i → i ≤ 255 → e i = some (cell h (dcM h e) i) := by
  intro i a b
  rcases (by omega : i = 253 ∨ i = 254 ∨ i = 255) with c | c | c
  · rw [c]; exact cO sh_253 o.1 rfl
  · rw [c]; exact cL sh_254 (o.2 0 (Nat.le_of_ble_eq_true rfl))
  · rw [c]; exact cI sh_255 (o.2 1 (Nat.le_of_ble_eq_true rfl)) (by decide)
set_option maxHeartbeats 4000000 in
theorem k256 (o : OB 256 5 [.ref (h + 3), .ref (h + 253), .ref (h + 257), .ref (h + 258), .ref (h + 259), .int 0, .int 0] [.inl (1, 2304, .inr (.inl (fun _ => 0))), .inl (0, 2304, .inl (fun _ => 0)), .inl (2, 2304, .inl (fun _ => 0))] e) : ∀ i, 256 ≤ i → i ≤ 259 → e i = some (cell h (dcM h e) i) := by
  intro i a b
  rcases (by omega : i = 256 ∨ i = 257 ∨ i = 258 ∨ i = 259) with c | c | c | c
  · rw [c]; exact cO sh_256 o.1 rfl
  · rw [c]; exact cL sh_257 (o.2 0 (Nat.le_of_ble_eq_true rfl))
  · rw [c]; exact cI sh_258 (o.2 1 (Nat.le_of_ble_eq_true rfl)) (by decide)
  · rw [c]; exact cI sh_259 (o.2 2 (Nat.le_of_ble_eq_true rfl)) (by decide)
set_option maxHeartbeats 4000000 in
theorem k260 (o : OB 260 6 [.ref (h + 3), .int 0, .ref (h + 261), .ref (h + 262), .int 0, .int 0, .int (-1), .int (-1), .ref (h + 263), .int 0] [.inl (1, 200, .inr (.inl (fun _ => 0))), .inl (0, 200, .inl (fun _ => 0)), .inl (0, 512, .inl (fun _ => 0))] e) : ∀ i, 260 ≤ i → i ≤ 263 → e i = some (cell h (dcM h e) i) := by
  intro i a b
  rcases (by omega : i = 260 ∨ i = 261 ∨ i = 262 ∨ i = 263) with c | c | c | c
  · rw [c]; exact cO sh_260 o.1 rfl
  · rw [c]; exact cL sh_261 (o.2 0 (Nat.le_of_ble_eq_true rfl))
  · rw [c]; exact cI sh_262 (o.2 1 (Nat.le_of_ble_eq_true rfl)) (by decide)
  · rw [c]; exact cI sh_263 (o.2 2 (Nat.le_of_ble_eq_true rfl)) (by decide)
set_option maxHeartbeats 4000000 in
theorem k264 (o : OB 264 6 [.ref (h + 3), .int 0, .ref (h + 265), .ref (h + 266), .int 0, .int 0, .int (-1), .int (-1), .ref (h + 267), .int 0] [.inl (1, 200, .inr (.inl (fun _ => 0))), .inl (0, 200, .inl (fun _ => 0)), .inl (0, 512, .inl (fun _ => 0))] e) : ∀ i, 264 ≤ i → i ≤ 267 → e i = some (cell h (dcM h e) i) := by
  intro i a b
  rcases (by omega : i = 264 ∨ i = 265 ∨ i = 266 ∨ i = 267) with c | c | c | c
  · rw [c]; exact cO sh_264 o.1 rfl
  · rw [c]; exact cL sh_265 (o.2 0 (Nat.le_of_ble_eq_true rfl))
  · rw [c]; exact cI sh_266 (o.2 1 (Nat.le_of_ble_eq_true rfl)) (by decide)
  · rw [c]; exact cI sh_267 (o.2 2 (Nat.le_of_ble_eq_true rfl)) (by decide)
set_option maxHeartbeats 4000000 in
theorem k268 (o : OB 268 6 [.ref (h + 3), .int 1, .ref (h + 269), .ref (h + 270), .int 0, .int 0, .int (-1), .int (-1), .ref (h + 271), .int 0] [.inl (1, 200, .inr (.inl (fun _ => 0))), .inl (0, 200, .inl (fun _ => 0)), .inl (0, 512, .inl (fun _ => 0))] e) : ∀ i, 268 ≤ i → i ≤ 271 → e i = some (cell h (dcM h e) i) := by
  intro i a b
  rcases (by omega : i = 268 ∨ i = 269 ∨ i = 270 ∨ i = 271) with c | c | c | c
  · rw [c]; exact cO sh_268 o.1 rfl
  · rw [c]; exact cL sh_269 (o.2 0 (Nat.le_of_ble_eq_true rfl))
  · rw [c]; exact cI sh_270 (o.2 1 (Nat.le_of_ble_eq_true rfl)) (by decide)
  · rw [c]; exact cI sh_271 (o.2 2 (Nat.le_of_ble_eq_true rfl)) (by decide)
set_option maxHeartbeats 4000000 in
theorem k272 (o : OB 272 1 [.ref (h + 3), .ref (h + 273), .int 0, .ref (h + 274), .ref (h + 275), .ref (h + 276)] [.inl (1, 85, .inr (.inl (fun _ => 0))), .inl (0, 425, .inl (fun _ => 0)), .inl (0, 85, .inl (fun _ => 0)), .inl (0, 85, .inl (fun _ => 0))] e) : ∀ i, 272 ≤ i → i ≤ 276 → e i = some (cell h (dcM h e) i) := by
  intro i a b
  rcases (by omega : i = 272 ∨ i = 273 ∨ i = 274 ∨ i = 275 ∨ i = 276) with c | c | c | c | c
  · rw [c]; exact cO sh_272 o.1 k272m
  · rw [c]; exact cL sh_273 (o.2 0 (Nat.le_of_ble_eq_true rfl))
  · rw [c]; exact cI sh_274 (o.2 1 (Nat.le_of_ble_eq_true rfl)) (by decide)
  · rw [c]; exact cI sh_275 (o.2 2 (Nat.le_of_ble_eq_true rfl)) (by decide)
  · rw [c]; exact cI sh_276 (o.2 3 (Nat.le_of_ble_eq_true rfl)) (by decide)
set_option maxHeartbeats 4000000 in
theorem k277 (o : OB 277 4 [.ref (h + 278), .int 0, .long 0, .long 0] [.inl (0, 5, .inl (fun _ => 0))] e) : ∀ i, 277 ≤ i → i ≤ 278 → e i = some (cell h (dcM h e) i) := by
  intro i a b
  rcases (by omega : i = 277 ∨ i = 278) with c | c
  · rw [c]; exact cO sh_277 o.1 rfl
  · rw [c]; exact cI sh_278 (o.2 0 (Nat.le_of_ble_eq_true rfl)) (by decide)
set_option maxHeartbeats 4000000 in
theorem k279 (o : OB 279 4 [.ref (h + 280), .int 0, .long 0, .long 0] [.inl (0, 5, .inl (fun _ => 0))] e) : ∀ i, 279 ≤ i → i ≤ 280 → e i = some (cell h (dcM h e) i) := by
  intro i a b
  rcases (by omega : i = 279 ∨ i = 280) with c | c
  · rw [c]; exact cO sh_279 o.1 rfl
  · rw [c]; exact cI sh_280 (o.2 0 (Nat.le_of_ble_eq_true rfl)) (by decide)
set_option maxHeartbeats 4000000 in
theorem k281 (o : OB 281 3 [.ref (h + 2), .int 0, .int 0, .ref (h + 282), .int 0, .int 0, .ref (h + 283), .ref (h + 284), .ref (h + 285), .ref (h + 286), .ref (h + 287), .ref (h + 288), .ref (h + 289), .ref (h + 290), .ref (h + 291), .ref (h + 292), .ref (h + 293)] [.inl (0, 656, .inl (fun _ => 0)), .inl (0, 656, .inl (fun _ => 0)), .inl (0, 656, .inl (fun _ => 0)), .inl (0, 640, .inl (fun _ => 0)), .inl (0, 40, .inl (fun _ => 0)), .inl (0, 40, .inl (fun _ => 0)), .inl (0, 40, .inl (fun _ => 0)), .inl (0, 40, .inl (fun _ => 0)), .inl (0, 40, .inl (fun _ => 0)), .inl (0, 40, .inl (fun _ => 0)), .inl (0, 40, .inl (fun _ => 0)), .inl (0, 40, .inl (fun _ => 0))] e) : ∀ i, 281 ≤ i → i ≤ 293 → e i = some (cell h (dcM h e) i) := by
  intro i a b
  rcases (by omega : i = 281 ∨ i = 282 ∨ i = 283 ∨ i = 284 ∨ i = 285 ∨ i = 286 ∨ i = 287 ∨ i = 288 ∨ i = 289 ∨ i = 290 ∨ i = 291 ∨ i = 292 ∨ i = 293) with c | c | c | c | c | c | c | c | c | c | c | c | c
  · rw [c]; exact cO sh_281 o.1 rfl
  · rw [c]; exact cI sh_282 (o.2 0 (Nat.le_of_ble_eq_true rfl)) (by decide)
  · rw [c]; exact cI sh_283 (o.2 1 (Nat.le_of_ble_eq_true rfl)) (by decide)
  · rw [c]; exact cI sh_284 (o.2 2 (Nat.le_of_ble_eq_true rfl)) (by decide)
  · rw [c]; exact cI sh_285 (o.2 3 (Nat.le_of_ble_eq_true rfl)) (by decide)
  · rw [c]; exact cI sh_286 (o.2 4 (Nat.le_of_ble_eq_true rfl)) (by decide)
  · rw [c]; exact cI sh_287 (o.2 5 (Nat.le_of_ble_eq_true rfl)) (by decide)
  · rw [c]; exact cI sh_288 (o.2 6 (Nat.le_of_ble_eq_true rfl)) (by decide)
  · rw [c]; exact cI sh_289 (o.2 7 (Nat.le_of_ble_eq_true rfl)) (by decide)
  · rw [c]; exact cI sh_290 (o.2 8 (Nat.le_of_ble_eq_true rfl)) (by decide)
  · rw [c]; exact cI sh_291 (o.2 9 (Nat.le_of_ble_eq_true rfl)) (by decide)
  · rw [c]; exact cI sh_292 (o.2 10 (Nat.le_of_ble_eq_true rfl)) (by decide)
  · rw [c]; exact cI sh_293 (o.2 11 (Nat.le_of_ble_eq_true rfl)) (by decide)
set_option maxHeartbeats 4000000 in
theorem k294 (o : OB 294 3 [.ref (h + 2), .int 0, .int 0, .ref (h + 295), .int 0, .int 0, .ref (h + 296), .ref (h + 297), .ref (h + 298), .ref (h + 299), .ref (h + 300), .ref (h + 301), .ref (h + 302), .ref (h + 303), .ref (h + 304), .ref (h + 305), .ref (h + 306)] [.inl (0, 656, .inl (fun _ => 0)), .inl (0, 656, .inl (fun _ => 0)), .inl (0, 656, .inl (fun _ => 0)), .inl (0, 640, .inl (fun _ => 0)), .inl (0, 40, .inl (fun _ => 0)), .inl (0, 40, .inl (fun _ => 0)), .inl (0, 40, .inl (fun _ => 0)), .inl (0, 40, .inl (fun _ => 0)), .inl (0, 40, .inl (fun _ => 0)), .inl (0, 40, .inl (fun _ => 0)), .inl (0, 40, .inl (fun _ => 0)), .inl (0, 40, .inl (fun _ => 0))] e) : ∀ i, 294 ≤ i → i ≤ 306 → e i = some (cell h (dcM h e) i) := by
  intro i a b
  rcases (by omega : i = 294 ∨ i = 295 ∨ i = 296 ∨ i = 297 ∨ i = 298 ∨ i = 299 ∨ i = 300 ∨ i = 301 ∨ i = 302 ∨ i = 303 ∨ i = 304 ∨ i = 305 ∨ i = 306) with c | c | c | c | c | c | c | c | c | c | c | c | c
  · rw [c]; exact cO sh_294 o.1 rfl
  · rw [c]; exact cI sh_295 (o.2 0 (Nat.le_of_ble_eq_true rfl)) (by decide)
  · rw [c]; exact cI sh_296 (o.2 1 (Nat.le_of_ble_eq_true rfl)) (by decide)
  · rw [c]; exact cI sh_297 (o.2 2 (Nat.le_of_ble_eq_true rfl)) (by decide)
  · rw [c]; exact cI sh_298 (o.2 3 (Nat.le_of_ble_eq_true rfl)) (by decide)
  · rw [c]; exact cI sh_299 (o.2 4 (Nat.le_of_ble_eq_true rfl)) (by decide)
  · rw [c]; exact cI sh_300 (o.2 5 (Nat.le_of_ble_eq_true rfl)) (by decide)
  · rw [c]; exact cI sh_301 (o.2 6 (Nat.le_of_ble_eq_true rfl)) (by decide)
  · rw [c]; exact cI sh_302 (o.2 7 (Nat.le_of_ble_eq_true rfl)) (by decide)
  · rw [c]; exact cI sh_303 (o.2 8 (Nat.le_of_ble_eq_true rfl)) (by decide)
  · rw [c]; exact cI sh_304 (o.2 9 (Nat.le_of_ble_eq_true rfl)) (by decide)
  · rw [c]; exact cI sh_305 (o.2 10 (Nat.le_of_ble_eq_true rfl)) (by decide)
  · rw [c]; exact cI sh_306 (o.2 11 (Nat.le_of_ble_eq_true rfl)) (by decide)
set_option maxHeartbeats 4000000 in
theorem k308 {f : Nat → Int64} (o : OB 308 11 (L12 h) (A12 f) e) : ∀ i, 308 ≤ i → i ≤ 338 → e i = some (cell h (dcM h e) i) := by
  intro i a b
  rcases (by omega : i = 308 ∨ i = 309 ∨ i = 310 ∨ i = 311 ∨ i = 312 ∨ i = 313 ∨ i = 314 ∨ i = 315 ∨ i = 316 ∨ i = 317 ∨ i = 318 ∨ i = 319 ∨ i = 320 ∨ i = 321 ∨ i = 322 ∨ i = 323 ∨ i = 324 ∨ i = 325 ∨ i = 326 ∨ i = 327 ∨ i = 328 ∨ i = 329 ∨ i = 330 ∨ i = 331 ∨ i = 332 ∨ i = 333 ∨ i = 334 ∨ i = 335 ∨ i = 336 ∨ i = 337 ∨ i = 338) with c | c | c | c | c | c | c | c | c | c | c | c | c | c | c | c | c | c | c | c | c | c | c | c | c | c | c | c | c | c | c
  · rw [c]; exact cO sh_308 o.1 rfl
  · rw [c]; exact cL sh_309 (o.2 0 (Nat.le_of_ble_eq_true rfl))
  · rw [c]; exact cL sh_310 (o.2 1 (Nat.le_of_ble_eq_true rfl))
  · rw [c]; exact cL sh_311 (o.2 2 (Nat.le_of_ble_eq_true rfl))
  · rw [c]; exact cI sh_312 (o.2 3 (Nat.le_of_ble_eq_true rfl)) (by decide)
  · rw [c]; exact cL sh_313 (o.2 4 (Nat.le_of_ble_eq_true rfl))
  · rw [c]; exact cL sh_314 (o.2 5 (Nat.le_of_ble_eq_true rfl))
  · rw [c]; exact cI sh_315 (o.2 6 (Nat.le_of_ble_eq_true rfl)) (by decide)
  · rw [c]; exact cI sh_316 (o.2 7 (Nat.le_of_ble_eq_true rfl)) (by decide)
  · rw [c]; exact cL sh_317 (o.2 8 (Nat.le_of_ble_eq_true rfl))
  · rw [c]; exact cI sh_318 (o.2 9 (Nat.le_of_ble_eq_true rfl)) (by decide)
  · rw [c]; exact cI sh_319 (o.2 10 (Nat.le_of_ble_eq_true rfl)) (by decide)
  · rw [c]; exact cI sh_320 (o.2 11 (Nat.le_of_ble_eq_true rfl)) (by decide)
  · rw [c]; exact cI sh_321 (o.2 12 (Nat.le_of_ble_eq_true rfl)) (by decide)
  · rw [c]; exact cI sh_322 (o.2 13 (Nat.le_of_ble_eq_true rfl)) (by decide)
  · rw [c]; exact cI sh_323 (o.2 14 (Nat.le_of_ble_eq_true rfl)) (by decide)
  · rw [c]; exact cI sh_324 (o.2 15 (Nat.le_of_ble_eq_true rfl)) (by decide)
  · rw [c]; exact cI sh_325 (o.2 16 (Nat.le_of_ble_eq_true rfl)) (by decide)
  · rw [c]; exact cI sh_326 (o.2 17 (Nat.le_of_ble_eq_true rfl)) (by decide)
  · rw [c]; exact cI sh_327 (o.2 18 (Nat.le_of_ble_eq_true rfl)) (by decide)
  · rw [c]; exact cI sh_328 (o.2 19 (Nat.le_of_ble_eq_true rfl)) (by decide)
  · rw [c]; exact cI sh_329 (o.2 20 (Nat.le_of_ble_eq_true rfl)) (by decide)
  · rw [c]; exact cI sh_330 (o.2 21 (Nat.le_of_ble_eq_true rfl)) (by decide)
  · rw [c]; exact cI sh_331 (o.2 22 (Nat.le_of_ble_eq_true rfl)) (by decide)
  · rw [c]; exact cI sh_332 (o.2 23 (Nat.le_of_ble_eq_true rfl)) (by decide)
  · rw [c]; exact cI sh_333 (o.2 24 (Nat.le_of_ble_eq_true rfl)) (by decide)
  · rw [c]; exact cI sh_334 (o.2 25 (Nat.le_of_ble_eq_true rfl)) (by decide)
  · rw [c]; exact cI sh_335 (o.2 26 (Nat.le_of_ble_eq_true rfl)) (by decide)
  · rw [c]; exact cI sh_336 (o.2 27 (Nat.le_of_ble_eq_true rfl)) (by decide)
  · rw [c]; exact cI sh_337 (o.2 28 (Nat.le_of_ble_eq_true rfl)) (by decide)
  · rw [c]; exact cI sh_338 (o.2 29 (Nat.le_of_ble_eq_true rfl)) (by decide)
theorem allc {f : Nat → Int64} (Q : Q11 h e) (o : OB 308 11 (L12 h) (A12 f) e) (z : e 339 = some (zL 1)) : ∀ i, i < 340 → e i = some (cell h (dcM h e) i) := by
  intro i hi
  obtain ⟨u0, u1, u2, u3, u4, u5, u6, u7, u8, u9, u10, u11, u12, u13, u14, u15, u16, u17⟩ := Q
  rcases (by omega : i = 0 ∨ i = 1 ∨ (2 ≤ i ∧ i ≤ 2 + 10) ∨ (13 ≤ i ∧ i ≤ 13 + 10) ∨ i = 24 ∨ i = 25 ∨ (26 ≤ i ∧ i ≤ 245) ∨ (246 ≤ i ∧ i ≤ 246) ∨ (247 ≤ i ∧ i ≤ 247 + 5) ∨ (253 ≤ i ∧ i ≤ 255) ∨ (256 ≤ i ∧ i ≤ 259) ∨ (260 ≤ i ∧ i ≤ 263) ∨ (264 ≤ i ∧ i ≤ 267) ∨ (268 ≤ i ∧ i ≤ 271) ∨ (272 ≤ i ∧ i ≤ 276) ∨ (277 ≤ i ∧ i ≤ 278) ∨ (279 ≤ i ∧ i ≤ 280) ∨ (281 ≤ i ∧ i ≤ 293) ∨ (294 ≤ i ∧ i ≤ 306) ∨ i = 307 ∨ (308 ≤ i ∧ i ≤ 338) ∨ i = 339) with c | c | c | c | c | c | c | c | c | c | c | c | c | c | c | c | c | c | c | c | c | c
  · rw [c]; exact cO sh_0 u0 rfl
  · rw [c]; exact cI sh_1 u1 (by decide)
  · exact dkc hd2 u2 i c.1 c.2
  · exact dkc hd13 u3 i c.1 c.2
  · rw [c]; exact cO sh_24 u4.1 rfl
  · rw [c]; exact c25 u4.2.1
  · exact dkc (hd_ring ((i - 26) / 11) (by omega)) (u4.2.2 _ (by omega)) i (by omega) (by omega)
  · exact k246 u5 i c.1 c.2
  · exact rkc rb247 u6 i c.1 c.2
  · exact k253 u7 i c.1 c.2
  · exact k256 u8 i c.1 c.2
  · exact k260 u9 i c.1 c.2
  · exact k264 u10 i c.1 c.2
  · exact k268 u11 i c.1 c.2
  · exact k272 u12 i c.1 c.2
  · exact k277 u13 i c.1 c.2
  · exact k279 u14 i c.1 c.2
  · exact k281 u15 i c.1 c.2
  · exact k294 u16 i c.1 c.2
  · rw [c]; exact cI sh_307 u17 (by decide)
  · exact k308 o i c.1 c.2
  · rw [c]; exact cL sh_339 z
theorem Te_M {s : Mm} (hA : ∀ i, i < 340 → e i = some (cell h s i)) : Te h e = M h s := by
  funext q
  unfold Te M
  by_cases c : h ≤ q ∧ q < h + 340
  · rw [if_pos c, if_pos c, hA _ (by omega)]
  · rw [if_neg c, if_neg c]
end CE
