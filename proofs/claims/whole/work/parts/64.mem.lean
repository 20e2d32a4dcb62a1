/-! THE MEMORY: ints and longs by cell and index; every cell has one shape for ever (shL); M h s is the abstract heap with its first cell at h -/
abbrev Mm : Type := (Nat → Nat → Int32) × (Nat → Nat → Int64)
abbrev Shp : Type := (Nat × Nat) ⊕ (Nat × List Nat)
def mI (s : Mm) (i : Nat) (f : Nat → Int32) : Mm := (fun a => if a = i then f else s.1 a, s.2)
def mL (s : Mm) (i : Nat) (f : Nat → Int64) : Mm := (s.1, fun a => if a = i then f else s.2 a)
def shL0 : List Shp := [.inr (10, [3, 0, 0, 4, 15, 0, 26, 248, 255, 258, 262, 266, 270, 274, 279, 281, 283, 296, 309, 0]),
  .inl (0, 300),
  .inr (2, [5, 11, 12, 13, 14]),
  .inr (8, [0, 0, 6, 7, 8, 9, 0, 10, 0]),
  .inl (1, 12),
  .inl (1, 12),
  .inl (0, 5),
  .inl (0, 5),
  .inl (0, 5),
  .inl (1, 6),
  .inl (1, 6),
  .inl (0, 6),
  .inl (0, 240),
  .inr (2, [16, 22, 23, 24, 25]),
  .inr (8, [0, 0, 17, 18, 19, 20, 0, 21, 0]),
  .inl (1, 12),
  .inl (1, 12),
  .inl (0, 5),
  .inl (0, 5),
  .inl (0, 5)]
def shL1 : List Shp := [.inl (1, 6),
  .inl (1, 6),
  .inl (0, 6),
  .inl (0, 240),
  .inr (0, [27, 0, 0]),
  .inl (3, 20),
  .inr (2, [29, 35, 36, 37, 38]),
  .inr (8, [0, 0, 30, 31, 32, 33, 0, 34, 0]),
  .inl (1, 12),
  .inl (1, 12),
  .inl (0, 5),
  .inl (0, 5),
  .inl (0, 5),
  .inl (1, 6),
  .inl (1, 6),
  .inl (0, 6),
  .inl (0, 240),
  .inr (2, [40, 46, 47, 48, 49]),
  .inr (8, [0, 0, 41, 42, 43, 44, 0, 45, 0]),
  .inl (1, 12)]
def shL2 : List Shp := [.inl (1, 12),
  .inl (0, 5),
  .inl (0, 5),
  .inl (0, 5),
  .inl (1, 6),
  .inl (1, 6),
  .inl (0, 6),
  .inl (0, 240),
  .inr (2, [51, 57, 58, 59, 60]),
  .inr (8, [0, 0, 52, 53, 54, 55, 0, 56, 0]),
  .inl (1, 12),
  .inl (1, 12),
  .inl (0, 5),
  .inl (0, 5),
  .inl (0, 5),
  .inl (1, 6),
  .inl (1, 6),
  .inl (0, 6),
  .inl (0, 240),
  .inr (2, [62, 68, 69, 70, 71])]
def shL3 : List Shp := [.inr (8, [0, 0, 63, 64, 65, 66, 0, 67, 0]),
  .inl (1, 12),
  .inl (1, 12),
  .inl (0, 5),
  .inl (0, 5),
  .inl (0, 5),
  .inl (1, 6),
  .inl (1, 6),
  .inl (0, 6),
  .inl (0, 240),
  .inr (2, [73, 79, 80, 81, 82]),
  .inr (8, [0, 0, 74, 75, 76, 77, 0, 78, 0]),
  .inl (1, 12),
  .inl (1, 12),
  .inl (0, 5),
  .inl (0, 5),
  .inl (0, 5),
  .inl (1, 6),
  .inl (1, 6),
  .inl (0, 6)]
def shL4 : List Shp := [.inl (0, 240),
  .inr (2, [84, 90, 91, 92, 93]),
  .inr (8, [0, 0, 85, 86, 87, 88, 0, 89, 0]),
  .inl (1, 12),
  .inl (1, 12),
  .inl (0, 5),
  .inl (0, 5),
  .inl (0, 5),
  .inl (1, 6),
  .inl (1, 6),
  .inl (0, 6),
  .inl (0, 240),
  .inr (2, [95, 101, 102, 103, 104]),
  .inr (8, [0, 0, 96, 97, 98, 99, 0, 100, 0]),
  .inl (1, 12),
  .inl (1, 12),
  .inl (0, 5),
  .inl (0, 5),
  .inl (0, 5),
  .inl (1, 6)]
def shL5 : List Shp := [.inl (1, 6),
  .inl (0, 6),
  .inl (0, 240),
  .inr (2, [106, 112, 113, 114, 115]),
  .inr (8, [0, 0, 107, 108, 109, 110, 0, 111, 0]),
  .inl (1, 12),
  .inl (1, 12),
  .inl (0, 5),
  .inl (0, 5),
  .inl (0, 5),
  .inl (1, 6),
  .inl (1, 6),
  .inl (0, 6),
  .inl (0, 240),
  .inr (2, [117, 123, 124, 125, 126]),
  .inr (8, [0, 0, 118, 119, 120, 121, 0, 122, 0]),
  .inl (1, 12),
  .inl (1, 12),
  .inl (0, 5),
  .inl (0, 5)]
def shL6 : List Shp := [.inl (0, 5),
  .inl (1, 6),
  .inl (1, 6),
  .inl (0, 6),
  .inl (0, 240),
  .inr (2, [128, 134, 135, 136, 137]),
  .inr (8, [0, 0, 129, 130, 131, 132, 0, 133, 0]),
  .inl (1, 12),
  .inl (1, 12),
  .inl (0, 5),
  .inl (0, 5),
  .inl (0, 5),
  .inl (1, 6),
  .inl (1, 6),
  .inl (0, 6),
  .inl (0, 240),
  .inr (2, [139, 145, 146, 147, 148]),
  .inr (8, [0, 0, 140, 141, 142, 143, 0, 144, 0]),
  .inl (1, 12),
  .inl (1, 12)]
def shL7 : List Shp := [.inl (0, 5),
  .inl (0, 5),
  .inl (0, 5),
  .inl (1, 6),
  .inl (1, 6),
  .inl (0, 6),
  .inl (0, 240),
  .inr (2, [150, 156, 157, 158, 159]),
  .inr (8, [0, 0, 151, 152, 153, 154, 0, 155, 0]),
  .inl (1, 12),
  .inl (1, 12),
  .inl (0, 5),
  .inl (0, 5),
  .inl (0, 5),
  .inl (1, 6),
  .inl (1, 6),
  .inl (0, 6),
  .inl (0, 240),
  .inr (2, [161, 167, 168, 169, 170]),
  .inr (8, [0, 0, 162, 163, 164, 165, 0, 166, 0])]
def shL8 : List Shp := [.inl (1, 12),
  .inl (1, 12),
  .inl (0, 5),
  .inl (0, 5),
  .inl (0, 5),
  .inl (1, 6),
  .inl (1, 6),
  .inl (0, 6),
  .inl (0, 240),
  .inr (2, [172, 178, 179, 180, 181]),
  .inr (8, [0, 0, 173, 174, 175, 176, 0, 177, 0]),
  .inl (1, 12),
  .inl (1, 12),
  .inl (0, 5),
  .inl (0, 5),
  .inl (0, 5),
  .inl (1, 6),
  .inl (1, 6),
  .inl (0, 6),
  .inl (0, 240)]
def shL9 : List Shp := [.inr (2, [183, 189, 190, 191, 192]),
  .inr (8, [0, 0, 184, 185, 186, 187, 0, 188, 0]),
  .inl (1, 12),
  .inl (1, 12),
  .inl (0, 5),
  .inl (0, 5),
  .inl (0, 5),
  .inl (1, 6),
  .inl (1, 6),
  .inl (0, 6),
  .inl (0, 240),
  .inr (2, [194, 200, 201, 202, 203]),
  .inr (8, [0, 0, 195, 196, 197, 198, 0, 199, 0]),
  .inl (1, 12),
  .inl (1, 12),
  .inl (0, 5),
  .inl (0, 5),
  .inl (0, 5),
  .inl (1, 6),
  .inl (1, 6)]
def shL10 : List Shp := [.inl (0, 6),
  .inl (0, 240),
  .inr (2, [205, 211, 212, 213, 214]),
  .inr (8, [0, 0, 206, 207, 208, 209, 0, 210, 0]),
  .inl (1, 12),
  .inl (1, 12),
  .inl (0, 5),
  .inl (0, 5),
  .inl (0, 5),
  .inl (1, 6),
  .inl (1, 6),
  .inl (0, 6),
  .inl (0, 240),
  .inr (2, [216, 222, 223, 224, 225]),
  .inr (8, [0, 0, 217, 218, 219, 220, 0, 221, 0]),
  .inl (1, 12),
  .inl (1, 12),
  .inl (0, 5),
  .inl (0, 5),
  .inl (0, 5)]
def shL11 : List Shp := [.inl (1, 6),
  .inl (1, 6),
  .inl (0, 6),
  .inl (0, 240),
  .inr (2, [227, 233, 234, 235, 236]),
  .inr (8, [0, 0, 228, 229, 230, 231, 0, 232, 0]),
  .inl (1, 12),
  .inl (1, 12),
  .inl (0, 5),
  .inl (0, 5),
  .inl (0, 5),
  .inl (1, 6),
  .inl (1, 6),
  .inl (0, 6),
  .inl (0, 240),
  .inr (2, [238, 244, 245, 246, 247]),
  .inr (8, [0, 0, 239, 240, 241, 242, 0, 243, 0]),
  .inl (1, 12),
  .inl (1, 12),
  .inl (0, 5)]
def shL12 : List Shp := [.inl (0, 5),
  .inl (0, 5),
  .inl (1, 6),
  .inl (1, 6),
  .inl (0, 6),
  .inl (0, 240),
  .inr (7, [249, 3, 0, 0, 0, 0]),
  .inr (8, [0, 0, 250, 251, 252, 253, 0, 254, 0]),
  .inl (1, 12),
  .inl (1, 12),
  .inl (0, 5),
  .inl (0, 5),
  .inl (0, 5),
  .inr (9, [5, 256, 257, 0, 0]),
  .inl (1, 61),
  .inl (0, 60),
  .inr (5, [5, 255, 259, 260, 261, 0, 0]),
  .inl (1, 2304),
  .inl (0, 2304),
  .inl (2, 2304)]
def shL13 : List Shp := [.inr (6, [5, 0, 263, 264, 0, 0, 0, 0, 265, 0]),
  .inl (1, 200),
  .inl (0, 200),
  .inl (0, 512),
  .inr (6, [5, 0, 267, 268, 0, 0, 0, 0, 269, 0]),
  .inl (1, 200),
  .inl (0, 200),
  .inl (0, 512),
  .inr (6, [5, 0, 271, 272, 0, 0, 0, 0, 273, 0]),
  .inl (1, 200),
  .inl (0, 200),
  .inl (0, 512),
  .inr (1, [5, 275, 0, 276, 999, 999]),
  .inl (1, 85),
  .inl (0, 425),
  .inl (0, 85),
  .inl (0, 85),
  .inr (4, [280, 0, 1, 1]),
  .inl (0, 5),
  .inr (4, [282, 0, 1, 1])]
def shL14 : List Shp := [.inl (0, 5),
  .inr (3, [4, 0, 0, 284, 0, 0, 285, 286, 287, 288, 289, 290, 291, 292, 293, 294, 295]),
  .inl (0, 656),
  .inl (0, 656),
  .inl (0, 656),
  .inl (0, 640),
  .inl (0, 40),
  .inl (0, 40),
  .inl (0, 40),
  .inl (0, 40),
  .inl (0, 40),
  .inl (0, 40),
  .inl (0, 40),
  .inl (0, 40),
  .inr (3, [4, 0, 0, 297, 0, 0, 298, 299, 300, 301, 302, 303, 304, 305, 306, 307, 308]),
  .inl (0, 656),
  .inl (0, 656),
  .inl (0, 656),
  .inl (0, 640),
  .inl (0, 40)]
def shL15 : List Shp := [.inl (0, 40),
  .inl (0, 40),
  .inl (0, 40),
  .inl (0, 40),
  .inl (0, 40),
  .inl (0, 40),
  .inl (0, 40),
  .inl (0, 430),
  .inr (11, [0, 311, 312, 313, 0, 0, 314, 0, 0, 0, 0, 0, 0, 0, 0, 315, 0, 0, 1, 0, 316, 317, 318, 0, 0, 319, 320, 321, 0, 0, 0, 1, 0, 1, 1, 322, 323, 324, 325, 0, 326, 0, 327, 328, 0, 329, 330, 331, 332, 333, 334, 335, 336, 337, 338, 0, 339, 340]),
  .inl (1, 294),
  .inl (1, 5880),
  .inl (1, 294),
  .inl (2, 300),
  .inl (1, 294),
  .inl (1, 61),
  .inl (0, 60),
  .inl (0, 60),
  .inl (1, 400),
  .inl (0, 400),
  .inl (0, 2)]
def shL16 : List Shp := [.inl (0, 5),
  .inl (0, 5),
  .inl (0, 32),
  .inl (0, 32),
  .inl (2, 500),
  .inl (0, 700),
  .inl (0, 700),
  .inl (0, 640),
  .inl (0, 40),
  .inl (0, 40),
  .inl (0, 40),
  .inl (0, 40),
  .inl (0, 40),
  .inl (0, 40),
  .inl (0, 40),
  .inl (0, 40),
  .inl (0, 700),
  .inl (0, 40),
  .inl (0, 40),
  .inl (1, 1)]
def shL : List Shp := shL0 ++ (shL1 ++ (shL2 ++ (shL3 ++ (shL4 ++ (shL5 ++ (shL6 ++ (shL7 ++ (shL8 ++ (shL9 ++ (shL10 ++ (shL11 ++ (shL12 ++ (shL13 ++ (shL14 ++ (shL15 ++ (shL16))))))))))))))))
def sh (i : Nat) : Shp := (shL[i]?).getD (.inl (9, 0))
def fld (h : Nat) (s : Mm) (i j c : Nat) : Value := if c = 0 then .int (s.1 i j) else if c = 1 then .long (s.2 i j) else if c = 999 then .ref (h + (275 + (s.1 i j).toNatClampNeg)) else .ref (h + (c - 2))
def cell (h : Nat) (s : Mm) (i : Nat) : xE := match sh i with
  | .inl (k, n) => .inl (k, n, if k = 1 then .inr (.inl (s.2 i)) else if k = 3 then .inr (.inr (.inr (.inr (fun j => if j < 20 then some (h + (26 + 11 * j)) else none)))) else .inl (s.1 i))
  | .inr (ci, l) => .inr (ci, l.mapIdx (fun j c => fld h s i j c))
def M (h : Nat) (s : Mm) : St := fun q => if h ≤ q ∧ q < h + 340 then some (cell h s (q - h)) else none
section MO
variable {h : Nat} {s : Mm} {i j ci c k n : Nat} {l : List Nat} {e : Int}
theorem M_at (hi : i < 340) : M h s (h + i) = some (cell h s i) := by
  unfold M; rw [if_pos (by omega), Nat.add_sub_cancel_left]
theorem cell_o (hs : sh i = .inr (ci, l)) : cell h s i = .inr (ci, l.mapIdx (fun j c => fld h s i j c)) := by
  unfold cell; rw [hs]
theorem cell_a (hs : sh i = .inl (k, n)) : cell h s i = .inl (k, n, if k = 1 then .inr (.inl (s.2 i)) else if k = 3 then .inr (.inr (.inr (.inr (fun j => if j < 20 then some (h + (26 + 11 * j)) else none)))) else .inl (s.1 i)) := by
  unfold cell; rw [hs]
theorem M_o (hs : sh i = .inr (ci, l)) (hi : i < 340) : M h s (h + i) = some (.inr (ci, l.mapIdx (fun j c => fld h s i j c))) := by rw [M_at hi, cell_o hs]
theorem M_f (hj : l[j]? = some c) : (l.mapIdx (fun j c => fld h s i j c))[j]? = some (fld h s i j c) := by
  rw [List.getElem?_mapIdx, hj]; rfl
theorem gI_M (hs : sh i = .inr (ci, l)) (hj : l[j]? = some 0) (hi : i < 340) : gI (M h s) (h + i) ci j = some (s.1 i j) := gI_of (M_o hs hi) (M_f hj)
theorem gL_M (hs : sh i = .inr (ci, l)) (hj : l[j]? = some 1) (hi : i < 340) : gL (M h s) (h + i) ci j = some (s.2 i j) := gL_of (M_o hs hi) (M_f hj)
theorem gR_M (hs : sh i = .inr (ci, l)) (hj : l[j]? = some (c + 2)) (hi : i < 340) (hc : c ≠ 997) : gR (M h s) (h + i) ci j = some (h + c) := gR_of (M_o hs hi) (by
  rw [M_f hj]; unfold fld; rw [if_neg (by omega), if_neg (by omega), if_neg (by omega)]; rfl)
theorem gS_M (hs : sh i = .inr (ci, l)) (hj : l[j]? = some 999) (hi : i < 340) : gR (M h s) (h + i) ci j = some (h + (275 + (s.1 i j).toNatClampNeg)) := gR_of (M_o hs hi) (by
  rw [M_f hj]; rfl)
theorem isO_M (hs : sh i = .inr (ci, l)) (hi : i < 340) : isO (M h s) (h + i) ci = some () := isO_of (M_o hs hi)
theorem xu_M {e : xE} {s' : Mm} (hi : i < 340) (he : e = cell h s' i) (h1 : ∀ a, a ≠ i → s'.1 a = s.1 a) (h2 : ∀ a, a ≠ i → s'.2 a = s.2 a) : xu (M h s) (h + i) e = M h s' := by
  funext q
  unfold xu M
  by_cases hq : q = h + i
  · rw [if_pos hq, if_pos (by omega), hq, Nat.add_sub_cancel_left, he]
  · rw [if_neg hq]
    by_cases hc : h ≤ q ∧ q < h + 340
    · rw [if_pos hc, if_pos hc]
      have hne : q - h ≠ i := by omega
      unfold cell fld
      rw [h1 _ hne, h2 _ hne]
    · rw [if_neg hc, if_neg hc]
theorem mI_at {f : Nat → Int32} : (mI s i f).1 i = f := if_pos rfl
theorem mI_ne {f : Nat → Int32} {a : Nat} (ha : a ≠ i) : (mI s i f).1 a = s.1 a := if_neg ha
theorem mL_at {f : Nat → Int64} : (mL s i f).2 i = f := if_pos rfl
theorem mL_ne {f : Nat → Int64} {a : Nat} (ha : a ≠ i) : (mL s i f).2 a = s.2 a := if_neg ha
theorem fld_eq {s' : Mm} (h1 : s'.1 i j = s.1 i j) (h2 : s'.2 i j = s.2 i j) : fld h s' i j c = fld h s i j c := by
  unfold fld; rw [h1, h2]
theorem upd_at {f : Nat → Int32} {v : Int32} : upd f j v j = v := if_pos rfl
theorem upd_ne {f : Nat → Int32} {v : Int32} {t : Nat} (ht : t ≠ j) : upd f j v t = f t := if_neg ht
theorem updL_at {f : Nat → Int64} {v : Int64} : vp_updL f j v j = v := if_pos rfl
theorem updL_ne {f : Nat → Int64} {v : Int64} {t : Nat} (ht : t ≠ j) : vp_updL f j v t = f t := if_neg ht
theorem w_M {v : Value} {s' : Mm} (hs : sh i = .inr (ci, l)) (hj : l[j]? = some c) (hi : i < 340) (hv : fld h s' i j c = v) (h1 : ∀ a, a ≠ i → s'.1 a = s.1 a) (h2 : ∀ a, a ≠ i → s'.2 a = s.2 a) (h3 : ∀ t, t ≠ j → s'.1 i t = s.1 i t ∧ s'.2 i t = s.2 i t) : wrF (M h s) (h + i) ci j v = some (M h s') := by
  rw [wrF_of (M_o hs hi) (by rw [List.length_mapIdx]; exact (List.getElem?_eq_some_iff.mp hj).1)]
  refine congrArg some (xu_M hi ?_ h1 h2)
  rw [cell_o hs]
  refine congrArg (fun x => Sum.inr (ci, x)) (List.ext_getElem? (fun t => ?_))
  rw [List.getElem?_set, List.getElem?_mapIdx, List.getElem?_mapIdx, List.length_mapIdx]
  by_cases ht : j = t
  · subst ht
    rw [if_pos rfl, if_pos (List.getElem?_eq_some_iff.mp hj).1, hj, Option.map_some, hv]
  · rw [if_neg ht]
    cases l[t]? with
    | none => rw [Option.map_none, Option.map_none]
    | some c => rw [Option.map_some, Option.map_some, fld_eq (h3 t (fun e => ht e.symm)).1 (h3 t (fun e => ht e.symm)).2]
theorem wI_M {v : Int32} (hs : sh i = .inr (ci, l)) (hj : l[j]? = some 0) (hi : i < 340) : wrF (M h s) (h + i) ci j (.int v) = some (M h (mI s i (upd (s.1 i) j v))) :=
  w_M hs hj hi (by show Value.int _ = _; rw [mI_at, upd_at]) (fun a ha => mI_ne ha) (fun a ha => rfl) (fun t ht => ⟨by rw [mI_at, upd_ne ht], rfl⟩)
theorem wL_M {v : Int64} (hs : sh i = .inr (ci, l)) (hj : l[j]? = some 1) (hi : i < 340) : wrF (M h s) (h + i) ci j (.long v) = some (M h (mL s i (vp_updL (s.2 i) j v))) :=
  w_M hs hj hi (by show Value.long _ = _; rw [mL_at, updL_at]) (fun a ha => rfl) (fun a ha => mL_ne ha) (fun t ht => ⟨rfl, by rw [mL_at, updL_ne ht]⟩)
/-- a field that holds one of two rows (the Avoider's) -/
theorem wS_M {v : Nat} (hs : sh i = .inr (ci, l)) (hj : l[j]? = some 999) (hi : i < 340) (hv : v ≤ 1) : wrF (M h s) (h + i) ci j (.ref (h + (275 + v))) = some (M h (mI s i (upd (s.1 i) j (i32 v)))) :=
  w_M hs hj hi (by
    unfold fld
    rw [if_neg (by decide), if_neg (by decide), if_pos rfl, mI_at, upd_at, clampN (show v ≤ 2147483647 by omega)]) (fun a ha => mI_ne ha) (fun a ha => rfl) (fun t ht => ⟨by rw [mI_at, upd_ne ht], rfl⟩)
theorem M_a (hs : sh i = .inl (k, n)) (hi : i < 340) : M h s (h + i) = some (.inl (k, n, if k = 1 then .inr (.inl (s.2 i)) else if k = 3 then .inr (.inr (.inr (.inr (fun j => if j < 20 then some (h + (26 + 11 * j)) else none)))) else .inl (s.1 i))) := by rw [M_at hi, cell_a hs]
theorem M_aI (hs : sh i = .inl (k, n)) (hi : i < 340) (hk : k ≠ 1 ∧ k ≠ 3) : M h s (h + i) = some (.inl (k, n, .inl (s.1 i))) := by rw [M_a hs hi, if_neg hk.1, if_neg hk.2]
theorem M_aL (hs : sh i = .inl (1, n)) (hi : i < 340) : M h s (h + i) = some (.inl (1, n, .inr (.inl (s.2 i)))) := by rw [M_a hs hi, if_pos rfl]
theorem M_aR (hs : sh i = .inl (3, n)) (hi : i < 340) : M h s (h + i) = some (.inl (3, n, .inr (.inr (.inr (.inr (fun j => if j < 20 then some (h + (26 + 11 * j)) else none)))))) := by rw [M_a hs hi, if_neg (by decide), if_pos rfl]
theorem aI_M (hs : sh i = .inl (k, n)) (hi : i < 340) (hk : k ≠ 1 ∧ k ≠ 3) (h1 : 0 ≤ e) (h2 : e < n) (hn : n ≤ 2147483647) : aI (M h s) (h + i) k (i32 e) = some (s.1 i e.toNat) :=
  aI_of (M_aI hs hi hk) e.toNat (by omega) (by omega) hn
theorem aL_M (hs : sh i = .inl (1, n)) (hi : i < 340) (h1 : 0 ≤ e) (h2 : e < n) (hn : n ≤ 2147483647) : aL (M h s) (h + i) (i32 e) = some (s.2 i e.toNat) :=
  aL_of (M_aL hs hi) e.toNat (by omega) (by omega) hn
theorem aR_M (h1 : 0 ≤ e) (h2 : e < 20) : aR (M h s) (h + 25) (i32 e) = some (h + (26 + 11 * e.toNat)) :=
  aR_of (M_aR (show sh 25 = .inl (3, 20) by decide +kernel) (by decide)) e.toNat (by omega) (by omega) (by decide) (if_pos (by omega))
theorem sI_M {v : Int32} (hs : sh i = .inl (0, n)) (hi : i < 340) (h1 : 0 ≤ e) (h2 : e < n) (hn : n ≤ 2147483647) : sI (M h s) (h + i) (i32 e) v = some (M h (mI s i (upd (s.1 i) e.toNat v))) := by
  rw [sI_of (M_aI hs hi (by decide)) e.toNat (by omega) (by omega) hn]
  exact congrArg some (xu_M hi (by rw [cell_a hs, if_neg (by decide), if_neg (by decide), mI_at]) (fun a ha => mI_ne ha) (fun a ha => rfl))
theorem sB_M {v : Int32} (hs : sh i = .inl (2, n)) (hi : i < 340) (h1 : 0 ≤ e) (h2 : e < n) (hn : n ≤ 2147483647) : sB (M h s) (h + i) (i32 e) v = some (M h (mI s i (upd (s.1 i) e.toNat (vp_nar .byte v)))) := by
  rw [sB_of (M_aI hs hi (by decide)) e.toNat (by omega) (by omega) hn]
  exact congrArg some (xu_M hi (by rw [cell_a hs, if_neg (by decide), if_neg (by decide), mI_at]) (fun a ha => mI_ne ha) (fun a ha => rfl))
theorem sL_M {v : Int64} (hs : sh i = .inl (1, n)) (hi : i < 340) (h1 : 0 ≤ e) (h2 : e < n) (hn : n ≤ 2147483647) : sL (M h s) (h + i) (i32 e) v = some (M h (mL s i (vp_updL (s.2 i) e.toNat v))) := by
  rw [sL_of (M_aL hs hi) e.toNat (by omega) (by omega) hn]
  exact congrArg some (xu_M hi (by rw [cell_a hs, if_pos rfl, mL_at]) (fun a ha => rfl) (fun a ha => mL_ne ha))
theorem ac_ok {a b d : Int} {n1 n2 : Nat} (ha : 0 ≤ a) (hb : 0 ≤ b) (hd : 0 ≤ d) (h1 : a + d ≤ n1) (h2 : b + d ≤ n2) (h3 : n1 ≤ 2147483647) (h4 : n2 ≤ 2147483647) :
    ¬ (i32 a < 0 ∨ i32 b < 0 ∨ i32 d < 0 ∨ n1 < (i32 a).toNatClampNeg + (i32 d).toNatClampNeg ∨ n2 < (i32 b).toNatClampNeg + (i32 d).toNatClampNeg) ∧ (i32 a).toNatClampNeg = a.toNat ∧ (i32 b).toNatClampNeg = b.toNat ∧ (i32 d).toNatClampNeg = d.toNat := by
  have e1 : (i32 a).toNatClampNeg = a.toNat := by
    show (i32 a).toInt.toNat = a.toNat
    rw [t32 (by omega) (by omega)]
  have e2 : (i32 b).toNatClampNeg = b.toNat := by
    show (i32 b).toInt.toNat = b.toNat
    rw [t32 (by omega) (by omega)]
  have e3 : (i32 d).toNatClampNeg = d.toNat := by
    show (i32 d).toInt.toNat = d.toNat
    rw [t32 (by omega) (by omega)]
  refine ⟨?_, e1, e2, e3⟩
  rw [e1, e2, e3, show (0 : Int32) = i32 0 from rfl, lt32 (by omega) (by omega) (by omega) (by omega), lt32 (by omega) (by omega) (by omega) (by omega), lt32 (by omega) (by omega) (by omega) (by omega)]
  omega
theorem acI_M {i' n' : Nat} {a b d : Int} (hs : sh i = .inl (0, n)) (hi : i < 340) (hs' : sh i' = .inl (0, n')) (hi' : i' < 340) (ha : 0 ≤ a) (hb : 0 ≤ b) (hd : 0 ≤ d) (h1 : a + d ≤ n) (h2 : b + d ≤ n') (h3 : n ≤ 2147483647) (h4 : n' ≤ 2147483647) :
    acI (M h s) (h + i) (i32 a) (h + i') (i32 b) (i32 d) = some (M h (mI s i' (va_cpy (s.1 i) (s.1 i') a.toNat b.toNat d.toNat))) := by
  obtain ⟨c1, c2, c3, c4⟩ := ac_ok ha hb hd h1 h2 h3 h4
  unfold acI arI
  rw [M_aI hs hi (by decide), M_aI hs' hi' (by decide)]
  simp only [if_true, Option.bind_some]
  rw [if_neg c1, c2, c3, c4]
  exact congrArg some (xu_M hi' (by rw [cell_a hs', if_neg (by decide), if_neg (by decide), mI_at]) (fun a ha => mI_ne ha) (fun a ha => rfl))
theorem acL_M {i' n' : Nat} {a b d : Int} (hs : sh i = .inl (1, n)) (hi : i < 340) (hs' : sh i' = .inl (1, n')) (hi' : i' < 340) (ha : 0 ≤ a) (hb : 0 ≤ b) (hd : 0 ≤ d) (h1 : a + d ≤ n) (h2 : b + d ≤ n') (h3 : n ≤ 2147483647) (h4 : n' ≤ 2147483647) :
    acL (M h s) (h + i) (i32 a) (h + i') (i32 b) (i32 d) = some (M h (mL s i' (va_cpy (s.2 i) (s.2 i') a.toNat b.toNat d.toNat))) := by
  obtain ⟨c1, c2, c3, c4⟩ := ac_ok ha hb hd h1 h2 h3 h4
  unfold acL arL
  rw [M_aL hs hi, M_aL hs' hi']
  simp only [if_true, Option.bind_some]
  rw [if_neg c1, c2, c3, c4]
  exact congrArg some (xu_M hi' (by rw [cell_a hs', if_pos rfl, mL_at]) (fun a ha => rfl) (fun a ha => mL_ne ha))
end MO

section MM
variable {h : Nat} {s : Mm}
theorem sh_0 : sh 0 = .inr (10, [3, 0, 0, 4, 15, 0, 26, 248, 255, 258, 262, 266, 270, 274, 279, 281, 283, 296, 309, 0]) := by decide +kernel
theorem o_0 : isO (M h s) (h + 0) 10 = some () := isO_M sh_0 (by decide)
theorem g_0_0 : gR (M h s) (h + 0) 10 0 = some (h + 1) := gR_M sh_0 rfl (by decide) (by decide)
theorem g_0_1 : gI (M h s) (h + 0) 10 1 = some (s.1 0 1) := gI_M sh_0 rfl (by decide)
theorem w_0_1 {v : Int32} : wrF (M h s) (h + 0) 10 1 (.int v) = some (M h (mI s 0 (upd (s.1 0) 1 v))) := wI_M sh_0 rfl (by decide)
theorem g_0_2 : gI (M h s) (h + 0) 10 2 = some (s.1 0 2) := gI_M sh_0 rfl (by decide)
theorem w_0_2 {v : Int32} : wrF (M h s) (h + 0) 10 2 (.int v) = some (M h (mI s 0 (upd (s.1 0) 2 v))) := wI_M sh_0 rfl (by decide)
theorem g_0_3 : gR (M h s) (h + 0) 10 3 = some (h + 2) := gR_M sh_0 rfl (by decide) (by decide)
theorem g_0_4 : gR (M h s) (h + 0) 10 4 = some (h + 13) := gR_M sh_0 rfl (by decide) (by decide)
theorem g_0_5 : gI (M h s) (h + 0) 10 5 = some (s.1 0 5) := gI_M sh_0 rfl (by decide)
theorem w_0_5 {v : Int32} : wrF (M h s) (h + 0) 10 5 (.int v) = some (M h (mI s 0 (upd (s.1 0) 5 v))) := wI_M sh_0 rfl (by decide)
theorem g_0_6 : gR (M h s) (h + 0) 10 6 = some (h + 24) := gR_M sh_0 rfl (by decide) (by decide)
theorem g_0_7 : gR (M h s) (h + 0) 10 7 = some (h + 246) := gR_M sh_0 rfl (by decide) (by decide)
theorem g_0_8 : gR (M h s) (h + 0) 10 8 = some (h + 253) := gR_M sh_0 rfl (by decide) (by decide)
theorem g_0_9 : gR (M h s) (h + 0) 10 9 = some (h + 256) := gR_M sh_0 rfl (by decide) (by decide)
theorem g_0_10 : gR (M h s) (h + 0) 10 10 = some (h + 260) := gR_M sh_0 rfl (by decide) (by decide)
theorem g_0_11 : gR (M h s) (h + 0) 10 11 = some (h + 264) := gR_M sh_0 rfl (by decide) (by decide)
theorem g_0_12 : gR (M h s) (h + 0) 10 12 = some (h + 268) := gR_M sh_0 rfl (by decide) (by decide)
theorem g_0_13 : gR (M h s) (h + 0) 10 13 = some (h + 272) := gR_M sh_0 rfl (by decide) (by decide)
theorem g_0_14 : gR (M h s) (h + 0) 10 14 = some (h + 277) := gR_M sh_0 rfl (by decide) (by decide)
theorem g_0_15 : gR (M h s) (h + 0) 10 15 = some (h + 279) := gR_M sh_0 rfl (by decide) (by decide)
theorem g_0_16 : gR (M h s) (h + 0) 10 16 = some (h + 281) := gR_M sh_0 rfl (by decide) (by decide)
theorem g_0_17 : gR (M h s) (h + 0) 10 17 = some (h + 294) := gR_M sh_0 rfl (by decide) (by decide)
theorem g_0_18 : gR (M h s) (h + 0) 10 18 = some (h + 307) := gR_M sh_0 rfl (by decide) (by decide)
theorem g_0_19 : gI (M h s) (h + 0) 10 19 = some (s.1 0 19) := gI_M sh_0 rfl (by decide)
theorem w_0_19 {v : Int32} : wrF (M h s) (h + 0) 10 19 (.int v) = some (M h (mI s 0 (upd (s.1 0) 19 v))) := wI_M sh_0 rfl (by decide)
theorem sh_2 : sh 2 = .inr (2, [5, 11, 12, 13, 14]) := by decide +kernel
theorem o_2 : isO (M h s) (h + 2) 2 = some () := isO_M sh_2 (by decide)
theorem g_2_0 : gR (M h s) (h + 2) 2 0 = some (h + 3) := gR_M sh_2 rfl (by decide) (by decide)
theorem g_2_1 : gR (M h s) (h + 2) 2 1 = some (h + 9) := gR_M sh_2 rfl (by decide) (by decide)
theorem g_2_2 : gR (M h s) (h + 2) 2 2 = some (h + 10) := gR_M sh_2 rfl (by decide) (by decide)
theorem g_2_3 : gR (M h s) (h + 2) 2 3 = some (h + 11) := gR_M sh_2 rfl (by decide) (by decide)
theorem g_2_4 : gR (M h s) (h + 2) 2 4 = some (h + 12) := gR_M sh_2 rfl (by decide) (by decide)
theorem sh_13 : sh 13 = .inr (2, [16, 22, 23, 24, 25]) := by decide +kernel
theorem o_13 : isO (M h s) (h + 13) 2 = some () := isO_M sh_13 (by decide)
theorem g_13_0 : gR (M h s) (h + 13) 2 0 = some (h + 14) := gR_M sh_13 rfl (by decide) (by decide)
theorem g_13_1 : gR (M h s) (h + 13) 2 1 = some (h + 20) := gR_M sh_13 rfl (by decide) (by decide)
theorem g_13_2 : gR (M h s) (h + 13) 2 2 = some (h + 21) := gR_M sh_13 rfl (by decide) (by decide)
theorem g_13_3 : gR (M h s) (h + 13) 2 3 = some (h + 22) := gR_M sh_13 rfl (by decide) (by decide)
theorem g_13_4 : gR (M h s) (h + 13) 2 4 = some (h + 23) := gR_M sh_13 rfl (by decide) (by decide)
theorem sh_24 : sh 24 = .inr (0, [27, 0, 0]) := by decide +kernel
theorem o_24 : isO (M h s) (h + 24) 0 = some () := isO_M sh_24 (by decide)
theorem g_24_0 : gR (M h s) (h + 24) 0 0 = some (h + 25) := gR_M sh_24 rfl (by decide) (by decide)
theorem g_24_1 : gI (M h s) (h + 24) 0 1 = some (s.1 24 1) := gI_M sh_24 rfl (by decide)
theorem w_24_1 {v : Int32} : wrF (M h s) (h + 24) 0 1 (.int v) = some (M h (mI s 24 (upd (s.1 24) 1 v))) := wI_M sh_24 rfl (by decide)
theorem g_24_2 : gI (M h s) (h + 24) 0 2 = some (s.1 24 2) := gI_M sh_24 rfl (by decide)
theorem w_24_2 {v : Int32} : wrF (M h s) (h + 24) 0 2 (.int v) = some (M h (mI s 24 (upd (s.1 24) 2 v))) := wI_M sh_24 rfl (by decide)
theorem sh_3 : sh 3 = .inr (8, [0, 0, 6, 7, 8, 9, 0, 10, 0]) := by decide +kernel
theorem o_3 : isO (M h s) (h + 3) 8 = some () := isO_M sh_3 (by decide)
theorem g_3_0 : gI (M h s) (h + 3) 8 0 = some (s.1 3 0) := gI_M sh_3 rfl (by decide)
theorem w_3_0 {v : Int32} : wrF (M h s) (h + 3) 8 0 (.int v) = some (M h (mI s 3 (upd (s.1 3) 0 v))) := wI_M sh_3 rfl (by decide)
theorem g_3_1 : gI (M h s) (h + 3) 8 1 = some (s.1 3 1) := gI_M sh_3 rfl (by decide)
theorem w_3_1 {v : Int32} : wrF (M h s) (h + 3) 8 1 (.int v) = some (M h (mI s 3 (upd (s.1 3) 1 v))) := wI_M sh_3 rfl (by decide)
theorem g_3_2 : gR (M h s) (h + 3) 8 2 = some (h + 4) := gR_M sh_3 rfl (by decide) (by decide)
theorem g_3_3 : gR (M h s) (h + 3) 8 3 = some (h + 5) := gR_M sh_3 rfl (by decide) (by decide)
theorem g_3_4 : gR (M h s) (h + 3) 8 4 = some (h + 6) := gR_M sh_3 rfl (by decide) (by decide)
theorem g_3_5 : gR (M h s) (h + 3) 8 5 = some (h + 7) := gR_M sh_3 rfl (by decide) (by decide)
theorem g_3_6 : gI (M h s) (h + 3) 8 6 = some (s.1 3 6) := gI_M sh_3 rfl (by decide)
theorem w_3_6 {v : Int32} : wrF (M h s) (h + 3) 8 6 (.int v) = some (M h (mI s 3 (upd (s.1 3) 6 v))) := wI_M sh_3 rfl (by decide)
theorem g_3_7 : gR (M h s) (h + 3) 8 7 = some (h + 8) := gR_M sh_3 rfl (by decide) (by decide)
theorem g_3_8 : gI (M h s) (h + 3) 8 8 = some (s.1 3 8) := gI_M sh_3 rfl (by decide)
theorem w_3_8 {v : Int32} : wrF (M h s) (h + 3) 8 8 (.int v) = some (M h (mI s 3 (upd (s.1 3) 8 v))) := wI_M sh_3 rfl (by decide)
theorem sh_14 : sh 14 = .inr (8, [0, 0, 17, 18, 19, 20, 0, 21, 0]) := by decide +kernel
theorem o_14 : isO (M h s) (h + 14) 8 = some () := isO_M sh_14 (by decide)
theorem g_14_0 : gI (M h s) (h + 14) 8 0 = some (s.1 14 0) := gI_M sh_14 rfl (by decide)
theorem w_14_0 {v : Int32} : wrF (M h s) (h + 14) 8 0 (.int v) = some (M h (mI s 14 (upd (s.1 14) 0 v))) := wI_M sh_14 rfl (by decide)
theorem g_14_1 : gI (M h s) (h + 14) 8 1 = some (s.1 14 1) := gI_M sh_14 rfl (by decide)
theorem w_14_1 {v : Int32} : wrF (M h s) (h + 14) 8 1 (.int v) = some (M h (mI s 14 (upd (s.1 14) 1 v))) := wI_M sh_14 rfl (by decide)
theorem g_14_2 : gR (M h s) (h + 14) 8 2 = some (h + 15) := gR_M sh_14 rfl (by decide) (by decide)
theorem g_14_3 : gR (M h s) (h + 14) 8 3 = some (h + 16) := gR_M sh_14 rfl (by decide) (by decide)
theorem g_14_4 : gR (M h s) (h + 14) 8 4 = some (h + 17) := gR_M sh_14 rfl (by decide) (by decide)
theorem g_14_5 : gR (M h s) (h + 14) 8 5 = some (h + 18) := gR_M sh_14 rfl (by decide) (by decide)
theorem g_14_6 : gI (M h s) (h + 14) 8 6 = some (s.1 14 6) := gI_M sh_14 rfl (by decide)
theorem w_14_6 {v : Int32} : wrF (M h s) (h + 14) 8 6 (.int v) = some (M h (mI s 14 (upd (s.1 14) 6 v))) := wI_M sh_14 rfl (by decide)
theorem g_14_7 : gR (M h s) (h + 14) 8 7 = some (h + 19) := gR_M sh_14 rfl (by decide) (by decide)
theorem g_14_8 : gI (M h s) (h + 14) 8 8 = some (s.1 14 8) := gI_M sh_14 rfl (by decide)
theorem w_14_8 {v : Int32} : wrF (M h s) (h + 14) 8 8 (.int v) = some (M h (mI s 14 (upd (s.1 14) 8 v))) := wI_M sh_14 rfl (by decide)
theorem sh_246 : sh 246 = .inr (7, [249, 3, 0, 0, 0, 0]) := by decide +kernel
theorem o_246 : isO (M h s) (h + 246) 7 = some () := isO_M sh_246 (by decide)
theorem g_246_0 : gR (M h s) (h + 246) 7 0 = some (h + 247) := gR_M sh_246 rfl (by decide) (by decide)
theorem g_246_1 : gR (M h s) (h + 246) 7 1 = some (h + 1) := gR_M sh_246 rfl (by decide) (by decide)
theorem g_246_2 : gI (M h s) (h + 246) 7 2 = some (s.1 246 2) := gI_M sh_246 rfl (by decide)
theorem w_246_2 {v : Int32} : wrF (M h s) (h + 246) 7 2 (.int v) = some (M h (mI s 246 (upd (s.1 246) 2 v))) := wI_M sh_246 rfl (by decide)
theorem g_246_3 : gI (M h s) (h + 246) 7 3 = some (s.1 246 3) := gI_M sh_246 rfl (by decide)
theorem w_246_3 {v : Int32} : wrF (M h s) (h + 246) 7 3 (.int v) = some (M h (mI s 246 (upd (s.1 246) 3 v))) := wI_M sh_246 rfl (by decide)
theorem g_246_4 : gI (M h s) (h + 246) 7 4 = some (s.1 246 4) := gI_M sh_246 rfl (by decide)
theorem w_246_4 {v : Int32} : wrF (M h s) (h + 246) 7 4 (.int v) = some (M h (mI s 246 (upd (s.1 246) 4 v))) := wI_M sh_246 rfl (by decide)
theorem g_246_5 : gI (M h s) (h + 246) 7 5 = some (s.1 246 5) := gI_M sh_246 rfl (by decide)
theorem w_246_5 {v : Int32} : wrF (M h s) (h + 246) 7 5 (.int v) = some (M h (mI s 246 (upd (s.1 246) 5 v))) := wI_M sh_246 rfl (by decide)
theorem sh_247 : sh 247 = .inr (8, [0, 0, 250, 251, 252, 253, 0, 254, 0]) := by decide +kernel
theorem o_247 : isO (M h s) (h + 247) 8 = some () := isO_M sh_247 (by decide)
theorem g_247_0 : gI (M h s) (h + 247) 8 0 = some (s.1 247 0) := gI_M sh_247 rfl (by decide)
theorem w_247_0 {v : Int32} : wrF (M h s) (h + 247) 8 0 (.int v) = some (M h (mI s 247 (upd (s.1 247) 0 v))) := wI_M sh_247 rfl (by decide)
theorem g_247_1 : gI (M h s) (h + 247) 8 1 = some (s.1 247 1) := gI_M sh_247 rfl (by decide)
theorem w_247_1 {v : Int32} : wrF (M h s) (h + 247) 8 1 (.int v) = some (M h (mI s 247 (upd (s.1 247) 1 v))) := wI_M sh_247 rfl (by decide)
theorem g_247_2 : gR (M h s) (h + 247) 8 2 = some (h + 248) := gR_M sh_247 rfl (by decide) (by decide)
theorem g_247_3 : gR (M h s) (h + 247) 8 3 = some (h + 249) := gR_M sh_247 rfl (by decide) (by decide)
theorem g_247_4 : gR (M h s) (h + 247) 8 4 = some (h + 250) := gR_M sh_247 rfl (by decide) (by decide)
theorem g_247_5 : gR (M h s) (h + 247) 8 5 = some (h + 251) := gR_M sh_247 rfl (by decide) (by decide)
theorem g_247_6 : gI (M h s) (h + 247) 8 6 = some (s.1 247 6) := gI_M sh_247 rfl (by decide)
theorem w_247_6 {v : Int32} : wrF (M h s) (h + 247) 8 6 (.int v) = some (M h (mI s 247 (upd (s.1 247) 6 v))) := wI_M sh_247 rfl (by decide)
theorem g_247_7 : gR (M h s) (h + 247) 8 7 = some (h + 252) := gR_M sh_247 rfl (by decide) (by decide)
theorem g_247_8 : gI (M h s) (h + 247) 8 8 = some (s.1 247 8) := gI_M sh_247 rfl (by decide)
theorem w_247_8 {v : Int32} : wrF (M h s) (h + 247) 8 8 (.int v) = some (M h (mI s 247 (upd (s.1 247) 8 v))) := wI_M sh_247 rfl (by decide)
theorem sh_253 : sh 253 = .inr (9, [5, 256, 257, 0, 0]) := by decide +kernel
theorem o_253 : isO (M h s) (h + 253) 9 = some () := isO_M sh_253 (by decide)
theorem g_253_0 : gR (M h s) (h + 253) 9 0 = some (h + 3) := gR_M sh_253 rfl (by decide) (by decide)
theorem g_253_1 : gR (M h s) (h + 253) 9 1 = some (h + 254) := gR_M sh_253 rfl (by decide) (by decide)
theorem g_253_2 : gR (M h s) (h + 253) 9 2 = some (h + 255) := gR_M sh_253 rfl (by decide) (by decide)
theorem g_253_3 : gI (M h s) (h + 253) 9 3 = some (s.1 253 3) := gI_M sh_253 rfl (by decide)
theorem w_253_3 {v : Int32} : wrF (M h s) (h + 253) 9 3 (.int v) = some (M h (mI s 253 (upd (s.1 253) 3 v))) := wI_M sh_253 rfl (by decide)
theorem g_253_4 : gI (M h s) (h + 253) 9 4 = some (s.1 253 4) := gI_M sh_253 rfl (by decide)
theorem w_253_4 {v : Int32} : wrF (M h s) (h + 253) 9 4 (.int v) = some (M h (mI s 253 (upd (s.1 253) 4 v))) := wI_M sh_253 rfl (by decide)
theorem sh_256 : sh 256 = .inr (5, [5, 255, 259, 260, 261, 0, 0]) := by decide +kernel
theorem o_256 : isO (M h s) (h + 256) 5 = some () := isO_M sh_256 (by decide)
theorem g_256_0 : gR (M h s) (h + 256) 5 0 = some (h + 3) := gR_M sh_256 rfl (by decide) (by decide)
theorem g_256_1 : gR (M h s) (h + 256) 5 1 = some (h + 253) := gR_M sh_256 rfl (by decide) (by decide)
theorem g_256_2 : gR (M h s) (h + 256) 5 2 = some (h + 257) := gR_M sh_256 rfl (by decide) (by decide)
theorem g_256_3 : gR (M h s) (h + 256) 5 3 = some (h + 258) := gR_M sh_256 rfl (by decide) (by decide)
theorem g_256_4 : gR (M h s) (h + 256) 5 4 = some (h + 259) := gR_M sh_256 rfl (by decide) (by decide)
theorem g_256_5 : gI (M h s) (h + 256) 5 5 = some (s.1 256 5) := gI_M sh_256 rfl (by decide)
theorem w_256_5 {v : Int32} : wrF (M h s) (h + 256) 5 5 (.int v) = some (M h (mI s 256 (upd (s.1 256) 5 v))) := wI_M sh_256 rfl (by decide)
theorem g_256_6 : gI (M h s) (h + 256) 5 6 = some (s.1 256 6) := gI_M sh_256 rfl (by decide)
theorem w_256_6 {v : Int32} : wrF (M h s) (h + 256) 5 6 (.int v) = some (M h (mI s 256 (upd (s.1 256) 6 v))) := wI_M sh_256 rfl (by decide)
theorem sh_260 : sh 260 = .inr (6, [5, 0, 263, 264, 0, 0, 0, 0, 265, 0]) := by decide +kernel
theorem o_260 : isO (M h s) (h + 260) 6 = some () := isO_M sh_260 (by decide)
theorem g_260_0 : gR (M h s) (h + 260) 6 0 = some (h + 3) := gR_M sh_260 rfl (by decide) (by decide)
theorem g_260_1 : gI (M h s) (h + 260) 6 1 = some (s.1 260 1) := gI_M sh_260 rfl (by decide)
theorem w_260_1 {v : Int32} : wrF (M h s) (h + 260) 6 1 (.int v) = some (M h (mI s 260 (upd (s.1 260) 1 v))) := wI_M sh_260 rfl (by decide)
theorem g_260_2 : gR (M h s) (h + 260) 6 2 = some (h + 261) := gR_M sh_260 rfl (by decide) (by decide)
theorem g_260_3 : gR (M h s) (h + 260) 6 3 = some (h + 262) := gR_M sh_260 rfl (by decide) (by decide)
theorem g_260_4 : gI (M h s) (h + 260) 6 4 = some (s.1 260 4) := gI_M sh_260 rfl (by decide)
theorem w_260_4 {v : Int32} : wrF (M h s) (h + 260) 6 4 (.int v) = some (M h (mI s 260 (upd (s.1 260) 4 v))) := wI_M sh_260 rfl (by decide)
theorem g_260_5 : gI (M h s) (h + 260) 6 5 = some (s.1 260 5) := gI_M sh_260 rfl (by decide)
theorem w_260_5 {v : Int32} : wrF (M h s) (h + 260) 6 5 (.int v) = some (M h (mI s 260 (upd (s.1 260) 5 v))) := wI_M sh_260 rfl (by decide)
theorem g_260_6 : gI (M h s) (h + 260) 6 6 = some (s.1 260 6) := gI_M sh_260 rfl (by decide)
theorem w_260_6 {v : Int32} : wrF (M h s) (h + 260) 6 6 (.int v) = some (M h (mI s 260 (upd (s.1 260) 6 v))) := wI_M sh_260 rfl (by decide)
theorem g_260_7 : gI (M h s) (h + 260) 6 7 = some (s.1 260 7) := gI_M sh_260 rfl (by decide)
theorem w_260_7 {v : Int32} : wrF (M h s) (h + 260) 6 7 (.int v) = some (M h (mI s 260 (upd (s.1 260) 7 v))) := wI_M sh_260 rfl (by decide)
theorem g_260_8 : gR (M h s) (h + 260) 6 8 = some (h + 263) := gR_M sh_260 rfl (by decide) (by decide)
theorem g_260_9 : gI (M h s) (h + 260) 6 9 = some (s.1 260 9) := gI_M sh_260 rfl (by decide)
theorem w_260_9 {v : Int32} : wrF (M h s) (h + 260) 6 9 (.int v) = some (M h (mI s 260 (upd (s.1 260) 9 v))) := wI_M sh_260 rfl (by decide)
theorem sh_264 : sh 264 = .inr (6, [5, 0, 267, 268, 0, 0, 0, 0, 269, 0]) := by decide +kernel
theorem o_264 : isO (M h s) (h + 264) 6 = some () := isO_M sh_264 (by decide)
theorem g_264_0 : gR (M h s) (h + 264) 6 0 = some (h + 3) := gR_M sh_264 rfl (by decide) (by decide)
theorem g_264_1 : gI (M h s) (h + 264) 6 1 = some (s.1 264 1) := gI_M sh_264 rfl (by decide)
theorem w_264_1 {v : Int32} : wrF (M h s) (h + 264) 6 1 (.int v) = some (M h (mI s 264 (upd (s.1 264) 1 v))) := wI_M sh_264 rfl (by decide)
theorem g_264_2 : gR (M h s) (h + 264) 6 2 = some (h + 265) := gR_M sh_264 rfl (by decide) (by decide)
theorem g_264_3 : gR (M h s) (h + 264) 6 3 = some (h + 266) := gR_M sh_264 rfl (by decide) (by decide)
theorem g_264_4 : gI (M h s) (h + 264) 6 4 = some (s.1 264 4) := gI_M sh_264 rfl (by decide)
theorem w_264_4 {v : Int32} : wrF (M h s) (h + 264) 6 4 (.int v) = some (M h (mI s 264 (upd (s.1 264) 4 v))) := wI_M sh_264 rfl (by decide)
theorem g_264_5 : gI (M h s) (h + 264) 6 5 = some (s.1 264 5) := gI_M sh_264 rfl (by decide)
theorem w_264_5 {v : Int32} : wrF (M h s) (h + 264) 6 5 (.int v) = some (M h (mI s 264 (upd (s.1 264) 5 v))) := wI_M sh_264 rfl (by decide)
theorem g_264_6 : gI (M h s) (h + 264) 6 6 = some (s.1 264 6) := gI_M sh_264 rfl (by decide)
theorem w_264_6 {v : Int32} : wrF (M h s) (h + 264) 6 6 (.int v) = some (M h (mI s 264 (upd (s.1 264) 6 v))) := wI_M sh_264 rfl (by decide)
theorem g_264_7 : gI (M h s) (h + 264) 6 7 = some (s.1 264 7) := gI_M sh_264 rfl (by decide)
theorem w_264_7 {v : Int32} : wrF (M h s) (h + 264) 6 7 (.int v) = some (M h (mI s 264 (upd (s.1 264) 7 v))) := wI_M sh_264 rfl (by decide)
theorem g_264_8 : gR (M h s) (h + 264) 6 8 = some (h + 267) := gR_M sh_264 rfl (by decide) (by decide)
theorem g_264_9 : gI (M h s) (h + 264) 6 9 = some (s.1 264 9) := gI_M sh_264 rfl (by decide)
theorem w_264_9 {v : Int32} : wrF (M h s) (h + 264) 6 9 (.int v) = some (M h (mI s 264 (upd (s.1 264) 9 v))) := wI_M sh_264 rfl (by decide)
theorem sh_268 : sh 268 = .inr (6, [5, 0, 271, 272, 0, 0, 0, 0, 273, 0]) := by decide +kernel
theorem o_268 : isO (M h s) (h + 268) 6 = some () := isO_M sh_268 (by decide)
theorem g_268_0 : gR (M h s) (h + 268) 6 0 = some (h + 3) := gR_M sh_268 rfl (by decide) (by decide)
theorem g_268_1 : gI (M h s) (h + 268) 6 1 = some (s.1 268 1) := gI_M sh_268 rfl (by decide)
theorem w_268_1 {v : Int32} : wrF (M h s) (h + 268) 6 1 (.int v) = some (M h (mI s 268 (upd (s.1 268) 1 v))) := wI_M sh_268 rfl (by decide)
theorem g_268_2 : gR (M h s) (h + 268) 6 2 = some (h + 269) := gR_M sh_268 rfl (by decide) (by decide)
theorem g_268_3 : gR (M h s) (h + 268) 6 3 = some (h + 270) := gR_M sh_268 rfl (by decide) (by decide)
theorem g_268_4 : gI (M h s) (h + 268) 6 4 = some (s.1 268 4) := gI_M sh_268 rfl (by decide)
theorem w_268_4 {v : Int32} : wrF (M h s) (h + 268) 6 4 (.int v) = some (M h (mI s 268 (upd (s.1 268) 4 v))) := wI_M sh_268 rfl (by decide)
theorem g_268_5 : gI (M h s) (h + 268) 6 5 = some (s.1 268 5) := gI_M sh_268 rfl (by decide)
theorem w_268_5 {v : Int32} : wrF (M h s) (h + 268) 6 5 (.int v) = some (M h (mI s 268 (upd (s.1 268) 5 v))) := wI_M sh_268 rfl (by decide)
theorem g_268_6 : gI (M h s) (h + 268) 6 6 = some (s.1 268 6) := gI_M sh_268 rfl (by decide)
theorem w_268_6 {v : Int32} : wrF (M h s) (h + 268) 6 6 (.int v) = some (M h (mI s 268 (upd (s.1 268) 6 v))) := wI_M sh_268 rfl (by decide)
theorem g_268_7 : gI (M h s) (h + 268) 6 7 = some (s.1 268 7) := gI_M sh_268 rfl (by decide)
theorem w_268_7 {v : Int32} : wrF (M h s) (h + 268) 6 7 (.int v) = some (M h (mI s 268 (upd (s.1 268) 7 v))) := wI_M sh_268 rfl (by decide)
theorem g_268_8 : gR (M h s) (h + 268) 6 8 = some (h + 271) := gR_M sh_268 rfl (by decide) (by decide)
theorem g_268_9 : gI (M h s) (h + 268) 6 9 = some (s.1 268 9) := gI_M sh_268 rfl (by decide)
theorem w_268_9 {v : Int32} : wrF (M h s) (h + 268) 6 9 (.int v) = some (M h (mI s 268 (upd (s.1 268) 9 v))) := wI_M sh_268 rfl (by decide)
theorem sh_272 : sh 272 = .inr (1, [5, 275, 0, 276, 999, 999]) := by decide +kernel
theorem o_272 : isO (M h s) (h + 272) 1 = some () := isO_M sh_272 (by decide)
theorem g_272_0 : gR (M h s) (h + 272) 1 0 = some (h + 3) := gR_M sh_272 rfl (by decide) (by decide)
theorem g_272_1 : gR (M h s) (h + 272) 1 1 = some (h + 273) := gR_M sh_272 rfl (by decide) (by decide)
theorem g_272_2 : gI (M h s) (h + 272) 1 2 = some (s.1 272 2) := gI_M sh_272 rfl (by decide)
theorem w_272_2 {v : Int32} : wrF (M h s) (h + 272) 1 2 (.int v) = some (M h (mI s 272 (upd (s.1 272) 2 v))) := wI_M sh_272 rfl (by decide)
theorem g_272_3 : gR (M h s) (h + 272) 1 3 = some (h + 274) := gR_M sh_272 rfl (by decide) (by decide)
theorem sh_277 : sh 277 = .inr (4, [280, 0, 1, 1]) := by decide +kernel
theorem o_277 : isO (M h s) (h + 277) 4 = some () := isO_M sh_277 (by decide)
theorem g_277_0 : gR (M h s) (h + 277) 4 0 = some (h + 278) := gR_M sh_277 rfl (by decide) (by decide)
theorem g_277_1 : gI (M h s) (h + 277) 4 1 = some (s.1 277 1) := gI_M sh_277 rfl (by decide)
theorem w_277_1 {v : Int32} : wrF (M h s) (h + 277) 4 1 (.int v) = some (M h (mI s 277 (upd (s.1 277) 1 v))) := wI_M sh_277 rfl (by decide)
theorem g_277_2 : gL (M h s) (h + 277) 4 2 = some (s.2 277 2) := gL_M sh_277 rfl (by decide)
theorem w_277_2 {v : Int64} : wrF (M h s) (h + 277) 4 2 (.long v) = some (M h (mL s 277 (vp_updL (s.2 277) 2 v))) := wL_M sh_277 rfl (by decide)
theorem g_277_3 : gL (M h s) (h + 277) 4 3 = some (s.2 277 3) := gL_M sh_277 rfl (by decide)
theorem w_277_3 {v : Int64} : wrF (M h s) (h + 277) 4 3 (.long v) = some (M h (mL s 277 (vp_updL (s.2 277) 3 v))) := wL_M sh_277 rfl (by decide)
theorem sh_279 : sh 279 = .inr (4, [282, 0, 1, 1]) := by decide +kernel
theorem o_279 : isO (M h s) (h + 279) 4 = some () := isO_M sh_279 (by decide)
theorem g_279_0 : gR (M h s) (h + 279) 4 0 = some (h + 280) := gR_M sh_279 rfl (by decide) (by decide)
theorem g_279_1 : gI (M h s) (h + 279) 4 1 = some (s.1 279 1) := gI_M sh_279 rfl (by decide)
theorem w_279_1 {v : Int32} : wrF (M h s) (h + 279) 4 1 (.int v) = some (M h (mI s 279 (upd (s.1 279) 1 v))) := wI_M sh_279 rfl (by decide)
theorem g_279_2 : gL (M h s) (h + 279) 4 2 = some (s.2 279 2) := gL_M sh_279 rfl (by decide)
theorem w_279_2 {v : Int64} : wrF (M h s) (h + 279) 4 2 (.long v) = some (M h (mL s 279 (vp_updL (s.2 279) 2 v))) := wL_M sh_279 rfl (by decide)
theorem g_279_3 : gL (M h s) (h + 279) 4 3 = some (s.2 279 3) := gL_M sh_279 rfl (by decide)
theorem w_279_3 {v : Int64} : wrF (M h s) (h + 279) 4 3 (.long v) = some (M h (mL s 279 (vp_updL (s.2 279) 3 v))) := wL_M sh_279 rfl (by decide)
theorem sh_281 : sh 281 = .inr (3, [4, 0, 0, 284, 0, 0, 285, 286, 287, 288, 289, 290, 291, 292, 293, 294, 295]) := by decide +kernel
theorem o_281 : isO (M h s) (h + 281) 3 = some () := isO_M sh_281 (by decide)
theorem g_281_0 : gR (M h s) (h + 281) 3 0 = some (h + 2) := gR_M sh_281 rfl (by decide) (by decide)
theorem g_281_1 : gI (M h s) (h + 281) 3 1 = some (s.1 281 1) := gI_M sh_281 rfl (by decide)
theorem w_281_1 {v : Int32} : wrF (M h s) (h + 281) 3 1 (.int v) = some (M h (mI s 281 (upd (s.1 281) 1 v))) := wI_M sh_281 rfl (by decide)
theorem g_281_2 : gI (M h s) (h + 281) 3 2 = some (s.1 281 2) := gI_M sh_281 rfl (by decide)
theorem w_281_2 {v : Int32} : wrF (M h s) (h + 281) 3 2 (.int v) = some (M h (mI s 281 (upd (s.1 281) 2 v))) := wI_M sh_281 rfl (by decide)
theorem g_281_3 : gR (M h s) (h + 281) 3 3 = some (h + 282) := gR_M sh_281 rfl (by decide) (by decide)
theorem g_281_4 : gI (M h s) (h + 281) 3 4 = some (s.1 281 4) := gI_M sh_281 rfl (by decide)
theorem w_281_4 {v : Int32} : wrF (M h s) (h + 281) 3 4 (.int v) = some (M h (mI s 281 (upd (s.1 281) 4 v))) := wI_M sh_281 rfl (by decide)
theorem g_281_5 : gI (M h s) (h + 281) 3 5 = some (s.1 281 5) := gI_M sh_281 rfl (by decide)
theorem w_281_5 {v : Int32} : wrF (M h s) (h + 281) 3 5 (.int v) = some (M h (mI s 281 (upd (s.1 281) 5 v))) := wI_M sh_281 rfl (by decide)
theorem g_281_6 : gR (M h s) (h + 281) 3 6 = some (h + 283) := gR_M sh_281 rfl (by decide) (by decide)
theorem g_281_7 : gR (M h s) (h + 281) 3 7 = some (h + 284) := gR_M sh_281 rfl (by decide) (by decide)
theorem g_281_8 : gR (M h s) (h + 281) 3 8 = some (h + 285) := gR_M sh_281 rfl (by decide) (by decide)
theorem g_281_9 : gR (M h s) (h + 281) 3 9 = some (h + 286) := gR_M sh_281 rfl (by decide) (by decide)
theorem g_281_10 : gR (M h s) (h + 281) 3 10 = some (h + 287) := gR_M sh_281 rfl (by decide) (by decide)
theorem g_281_11 : gR (M h s) (h + 281) 3 11 = some (h + 288) := gR_M sh_281 rfl (by decide) (by decide)
theorem g_281_12 : gR (M h s) (h + 281) 3 12 = some (h + 289) := gR_M sh_281 rfl (by decide) (by decide)
theorem g_281_13 : gR (M h s) (h + 281) 3 13 = some (h + 290) := gR_M sh_281 rfl (by decide) (by decide)
theorem g_281_14 : gR (M h s) (h + 281) 3 14 = some (h + 291) := gR_M sh_281 rfl (by decide) (by decide)
theorem g_281_15 : gR (M h s) (h + 281) 3 15 = some (h + 292) := gR_M sh_281 rfl (by decide) (by decide)
theorem g_281_16 : gR (M h s) (h + 281) 3 16 = some (h + 293) := gR_M sh_281 rfl (by decide) (by decide)
theorem sh_294 : sh 294 = .inr (3, [4, 0, 0, 297, 0, 0, 298, 299, 300, 301, 302, 303, 304, 305, 306, 307, 308]) := by decide +kernel
theorem o_294 : isO (M h s) (h + 294) 3 = some () := isO_M sh_294 (by decide)
theorem g_294_0 : gR (M h s) (h + 294) 3 0 = some (h + 2) := gR_M sh_294 rfl (by decide) (by decide)
theorem g_294_1 : gI (M h s) (h + 294) 3 1 = some (s.1 294 1) := gI_M sh_294 rfl (by decide)
theorem w_294_1 {v : Int32} : wrF (M h s) (h + 294) 3 1 (.int v) = some (M h (mI s 294 (upd (s.1 294) 1 v))) := wI_M sh_294 rfl (by decide)
theorem g_294_2 : gI (M h s) (h + 294) 3 2 = some (s.1 294 2) := gI_M sh_294 rfl (by decide)
theorem w_294_2 {v : Int32} : wrF (M h s) (h + 294) 3 2 (.int v) = some (M h (mI s 294 (upd (s.1 294) 2 v))) := wI_M sh_294 rfl (by decide)
theorem g_294_3 : gR (M h s) (h + 294) 3 3 = some (h + 295) := gR_M sh_294 rfl (by decide) (by decide)
theorem g_294_4 : gI (M h s) (h + 294) 3 4 = some (s.1 294 4) := gI_M sh_294 rfl (by decide)
theorem w_294_4 {v : Int32} : wrF (M h s) (h + 294) 3 4 (.int v) = some (M h (mI s 294 (upd (s.1 294) 4 v))) := wI_M sh_294 rfl (by decide)
theorem g_294_5 : gI (M h s) (h + 294) 3 5 = some (s.1 294 5) := gI_M sh_294 rfl (by decide)
theorem w_294_5 {v : Int32} : wrF (M h s) (h + 294) 3 5 (.int v) = some (M h (mI s 294 (upd (s.1 294) 5 v))) := wI_M sh_294 rfl (by decide)
theorem g_294_6 : gR (M h s) (h + 294) 3 6 = some (h + 296) := gR_M sh_294 rfl (by decide) (by decide)
theorem g_294_7 : gR (M h s) (h + 294) 3 7 = some (h + 297) := gR_M sh_294 rfl (by decide) (by decide)
theorem g_294_8 : gR (M h s) (h + 294) 3 8 = some (h + 298) := gR_M sh_294 rfl (by decide) (by decide)
theorem g_294_9 : gR (M h s) (h + 294) 3 9 = some (h + 299) := gR_M sh_294 rfl (by decide) (by decide)
theorem g_294_10 : gR (M h s) (h + 294) 3 10 = some (h + 300) := gR_M sh_294 rfl (by decide) (by decide)
theorem g_294_11 : gR (M h s) (h + 294) 3 11 = some (h + 301) := gR_M sh_294 rfl (by decide) (by decide)
theorem g_294_12 : gR (M h s) (h + 294) 3 12 = some (h + 302) := gR_M sh_294 rfl (by decide) (by decide)
theorem g_294_13 : gR (M h s) (h + 294) 3 13 = some (h + 303) := gR_M sh_294 rfl (by decide) (by decide)
theorem g_294_14 : gR (M h s) (h + 294) 3 14 = some (h + 304) := gR_M sh_294 rfl (by decide) (by decide)
theorem g_294_15 : gR (M h s) (h + 294) 3 15 = some (h + 305) := gR_M sh_294 rfl (by decide) (by decide)
theorem g_294_16 : gR (M h s) (h + 294) 3 16 = some (h + 306) := gR_M sh_294 rfl (by decide) (by decide)
theorem sh_308 : sh 308 = .inr (11, [0, 311, 312, 313, 0, 0, 314, 0, 0, 0, 0, 0, 0, 0, 0, 315, 0, 0, 1, 0, 316, 317, 318, 0, 0, 319, 320, 321, 0, 0, 0, 1, 0, 1, 1, 322, 323, 324, 325, 0, 326, 0, 327, 328, 0, 329, 330, 331, 332, 333, 334, 335, 336, 337, 338, 0, 339, 340]) := by decide +kernel
theorem o_308 : isO (M h s) (h + 308) 11 = some () := isO_M sh_308 (by decide)
theorem g_308_0 : gI (M h s) (h + 308) 11 0 = some (s.1 308 0) := gI_M sh_308 rfl (by decide)
theorem w_308_0 {v : Int32} : wrF (M h s) (h + 308) 11 0 (.int v) = some (M h (mI s 308 (upd (s.1 308) 0 v))) := wI_M sh_308 rfl (by decide)
theorem g_308_1 : gR (M h s) (h + 308) 11 1 = some (h + 309) := gR_M sh_308 rfl (by decide) (by decide)
theorem g_308_2 : gR (M h s) (h + 308) 11 2 = some (h + 310) := gR_M sh_308 rfl (by decide) (by decide)
theorem g_308_3 : gR (M h s) (h + 308) 11 3 = some (h + 311) := gR_M sh_308 rfl (by decide) (by decide)
theorem g_308_4 : gI (M h s) (h + 308) 11 4 = some (s.1 308 4) := gI_M sh_308 rfl (by decide)
theorem w_308_4 {v : Int32} : wrF (M h s) (h + 308) 11 4 (.int v) = some (M h (mI s 308 (upd (s.1 308) 4 v))) := wI_M sh_308 rfl (by decide)
theorem g_308_5 : gI (M h s) (h + 308) 11 5 = some (s.1 308 5) := gI_M sh_308 rfl (by decide)
theorem w_308_5 {v : Int32} : wrF (M h s) (h + 308) 11 5 (.int v) = some (M h (mI s 308 (upd (s.1 308) 5 v))) := wI_M sh_308 rfl (by decide)
theorem g_308_6 : gR (M h s) (h + 308) 11 6 = some (h + 312) := gR_M sh_308 rfl (by decide) (by decide)
theorem g_308_7 : gI (M h s) (h + 308) 11 7 = some (s.1 308 7) := gI_M sh_308 rfl (by decide)
theorem w_308_7 {v : Int32} : wrF (M h s) (h + 308) 11 7 (.int v) = some (M h (mI s 308 (upd (s.1 308) 7 v))) := wI_M sh_308 rfl (by decide)
theorem g_308_8 : gI (M h s) (h + 308) 11 8 = some (s.1 308 8) := gI_M sh_308 rfl (by decide)
theorem w_308_8 {v : Int32} : wrF (M h s) (h + 308) 11 8 (.int v) = some (M h (mI s 308 (upd (s.1 308) 8 v))) := wI_M sh_308 rfl (by decide)
theorem g_308_9 : gI (M h s) (h + 308) 11 9 = some (s.1 308 9) := gI_M sh_308 rfl (by decide)
theorem w_308_9 {v : Int32} : wrF (M h s) (h + 308) 11 9 (.int v) = some (M h (mI s 308 (upd (s.1 308) 9 v))) := wI_M sh_308 rfl (by decide)
theorem g_308_10 : gI (M h s) (h + 308) 11 10 = some (s.1 308 10) := gI_M sh_308 rfl (by decide)
theorem w_308_10 {v : Int32} : wrF (M h s) (h + 308) 11 10 (.int v) = some (M h (mI s 308 (upd (s.1 308) 10 v))) := wI_M sh_308 rfl (by decide)
theorem g_308_11 : gI (M h s) (h + 308) 11 11 = some (s.1 308 11) := gI_M sh_308 rfl (by decide)
theorem w_308_11 {v : Int32} : wrF (M h s) (h + 308) 11 11 (.int v) = some (M h (mI s 308 (upd (s.1 308) 11 v))) := wI_M sh_308 rfl (by decide)
theorem g_308_12 : gI (M h s) (h + 308) 11 12 = some (s.1 308 12) := gI_M sh_308 rfl (by decide)
theorem w_308_12 {v : Int32} : wrF (M h s) (h + 308) 11 12 (.int v) = some (M h (mI s 308 (upd (s.1 308) 12 v))) := wI_M sh_308 rfl (by decide)
theorem g_308_13 : gI (M h s) (h + 308) 11 13 = some (s.1 308 13) := gI_M sh_308 rfl (by decide)
theorem w_308_13 {v : Int32} : wrF (M h s) (h + 308) 11 13 (.int v) = some (M h (mI s 308 (upd (s.1 308) 13 v))) := wI_M sh_308 rfl (by decide)
theorem g_308_14 : gI (M h s) (h + 308) 11 14 = some (s.1 308 14) := gI_M sh_308 rfl (by decide)
theorem w_308_14 {v : Int32} : wrF (M h s) (h + 308) 11 14 (.int v) = some (M h (mI s 308 (upd (s.1 308) 14 v))) := wI_M sh_308 rfl (by decide)
theorem g_308_15 : gR (M h s) (h + 308) 11 15 = some (h + 313) := gR_M sh_308 rfl (by decide) (by decide)
theorem g_308_16 : gI (M h s) (h + 308) 11 16 = some (s.1 308 16) := gI_M sh_308 rfl (by decide)
theorem w_308_16 {v : Int32} : wrF (M h s) (h + 308) 11 16 (.int v) = some (M h (mI s 308 (upd (s.1 308) 16 v))) := wI_M sh_308 rfl (by decide)
theorem g_308_17 : gI (M h s) (h + 308) 11 17 = some (s.1 308 17) := gI_M sh_308 rfl (by decide)
theorem w_308_17 {v : Int32} : wrF (M h s) (h + 308) 11 17 (.int v) = some (M h (mI s 308 (upd (s.1 308) 17 v))) := wI_M sh_308 rfl (by decide)
theorem g_308_18 : gL (M h s) (h + 308) 11 18 = some (s.2 308 18) := gL_M sh_308 rfl (by decide)
theorem w_308_18 {v : Int64} : wrF (M h s) (h + 308) 11 18 (.long v) = some (M h (mL s 308 (vp_updL (s.2 308) 18 v))) := wL_M sh_308 rfl (by decide)
theorem g_308_19 : gI (M h s) (h + 308) 11 19 = some (s.1 308 19) := gI_M sh_308 rfl (by decide)
theorem w_308_19 {v : Int32} : wrF (M h s) (h + 308) 11 19 (.int v) = some (M h (mI s 308 (upd (s.1 308) 19 v))) := wI_M sh_308 rfl (by decide)
theorem g_308_20 : gR (M h s) (h + 308) 11 20 = some (h + 314) := gR_M sh_308 rfl (by decide) (by decide)
theorem g_308_21 : gR (M h s) (h + 308) 11 21 = some (h + 315) := gR_M sh_308 rfl (by decide) (by decide)
theorem g_308_22 : gR (M h s) (h + 308) 11 22 = some (h + 316) := gR_M sh_308 rfl (by decide) (by decide)
theorem g_308_23 : gI (M h s) (h + 308) 11 23 = some (s.1 308 23) := gI_M sh_308 rfl (by decide)
theorem w_308_23 {v : Int32} : wrF (M h s) (h + 308) 11 23 (.int v) = some (M h (mI s 308 (upd (s.1 308) 23 v))) := wI_M sh_308 rfl (by decide)
theorem g_308_24 : gI (M h s) (h + 308) 11 24 = some (s.1 308 24) := gI_M sh_308 rfl (by decide)
theorem w_308_24 {v : Int32} : wrF (M h s) (h + 308) 11 24 (.int v) = some (M h (mI s 308 (upd (s.1 308) 24 v))) := wI_M sh_308 rfl (by decide)
theorem g_308_25 : gR (M h s) (h + 308) 11 25 = some (h + 317) := gR_M sh_308 rfl (by decide) (by decide)
theorem g_308_26 : gR (M h s) (h + 308) 11 26 = some (h + 318) := gR_M sh_308 rfl (by decide) (by decide)
theorem g_308_27 : gR (M h s) (h + 308) 11 27 = some (h + 319) := gR_M sh_308 rfl (by decide) (by decide)
theorem g_308_28 : gI (M h s) (h + 308) 11 28 = some (s.1 308 28) := gI_M sh_308 rfl (by decide)
theorem w_308_28 {v : Int32} : wrF (M h s) (h + 308) 11 28 (.int v) = some (M h (mI s 308 (upd (s.1 308) 28 v))) := wI_M sh_308 rfl (by decide)
theorem g_308_29 : gI (M h s) (h + 308) 11 29 = some (s.1 308 29) := gI_M sh_308 rfl (by decide)
theorem w_308_29 {v : Int32} : wrF (M h s) (h + 308) 11 29 (.int v) = some (M h (mI s 308 (upd (s.1 308) 29 v))) := wI_M sh_308 rfl (by decide)
theorem g_308_30 : gI (M h s) (h + 308) 11 30 = some (s.1 308 30) := gI_M sh_308 rfl (by decide)
theorem w_308_30 {v : Int32} : wrF (M h s) (h + 308) 11 30 (.int v) = some (M h (mI s 308 (upd (s.1 308) 30 v))) := wI_M sh_308 rfl (by decide)
theorem g_308_31 : gL (M h s) (h + 308) 11 31 = some (s.2 308 31) := gL_M sh_308 rfl (by decide)
theorem w_308_31 {v : Int64} : wrF (M h s) (h + 308) 11 31 (.long v) = some (M h (mL s 308 (vp_updL (s.2 308) 31 v))) := wL_M sh_308 rfl (by decide)
theorem g_308_32 : gI (M h s) (h + 308) 11 32 = some (s.1 308 32) := gI_M sh_308 rfl (by decide)
theorem w_308_32 {v : Int32} : wrF (M h s) (h + 308) 11 32 (.int v) = some (M h (mI s 308 (upd (s.1 308) 32 v))) := wI_M sh_308 rfl (by decide)
theorem g_308_33 : gL (M h s) (h + 308) 11 33 = some (s.2 308 33) := gL_M sh_308 rfl (by decide)
theorem w_308_33 {v : Int64} : wrF (M h s) (h + 308) 11 33 (.long v) = some (M h (mL s 308 (vp_updL (s.2 308) 33 v))) := wL_M sh_308 rfl (by decide)
theorem g_308_34 : gL (M h s) (h + 308) 11 34 = some (s.2 308 34) := gL_M sh_308 rfl (by decide)
theorem w_308_34 {v : Int64} : wrF (M h s) (h + 308) 11 34 (.long v) = some (M h (mL s 308 (vp_updL (s.2 308) 34 v))) := wL_M sh_308 rfl (by decide)
theorem g_308_35 : gR (M h s) (h + 308) 11 35 = some (h + 320) := gR_M sh_308 rfl (by decide) (by decide)
theorem g_308_36 : gR (M h s) (h + 308) 11 36 = some (h + 321) := gR_M sh_308 rfl (by decide) (by decide)
theorem g_308_37 : gR (M h s) (h + 308) 11 37 = some (h + 322) := gR_M sh_308 rfl (by decide) (by decide)
theorem g_308_38 : gR (M h s) (h + 308) 11 38 = some (h + 323) := gR_M sh_308 rfl (by decide) (by decide)
theorem g_308_39 : gI (M h s) (h + 308) 11 39 = some (s.1 308 39) := gI_M sh_308 rfl (by decide)
theorem w_308_39 {v : Int32} : wrF (M h s) (h + 308) 11 39 (.int v) = some (M h (mI s 308 (upd (s.1 308) 39 v))) := wI_M sh_308 rfl (by decide)
theorem g_308_40 : gR (M h s) (h + 308) 11 40 = some (h + 324) := gR_M sh_308 rfl (by decide) (by decide)
theorem g_308_41 : gI (M h s) (h + 308) 11 41 = some (s.1 308 41) := gI_M sh_308 rfl (by decide)
theorem w_308_41 {v : Int32} : wrF (M h s) (h + 308) 11 41 (.int v) = some (M h (mI s 308 (upd (s.1 308) 41 v))) := wI_M sh_308 rfl (by decide)
theorem g_308_42 : gR (M h s) (h + 308) 11 42 = some (h + 325) := gR_M sh_308 rfl (by decide) (by decide)
theorem g_308_43 : gR (M h s) (h + 308) 11 43 = some (h + 326) := gR_M sh_308 rfl (by decide) (by decide)
theorem g_308_44 : gI (M h s) (h + 308) 11 44 = some (s.1 308 44) := gI_M sh_308 rfl (by decide)
theorem w_308_44 {v : Int32} : wrF (M h s) (h + 308) 11 44 (.int v) = some (M h (mI s 308 (upd (s.1 308) 44 v))) := wI_M sh_308 rfl (by decide)
theorem g_308_45 : gR (M h s) (h + 308) 11 45 = some (h + 327) := gR_M sh_308 rfl (by decide) (by decide)
theorem g_308_46 : gR (M h s) (h + 308) 11 46 = some (h + 328) := gR_M sh_308 rfl (by decide) (by decide)
theorem g_308_47 : gR (M h s) (h + 308) 11 47 = some (h + 329) := gR_M sh_308 rfl (by decide) (by decide)
theorem g_308_48 : gR (M h s) (h + 308) 11 48 = some (h + 330) := gR_M sh_308 rfl (by decide) (by decide)
theorem g_308_49 : gR (M h s) (h + 308) 11 49 = some (h + 331) := gR_M sh_308 rfl (by decide) (by decide)
theorem g_308_50 : gR (M h s) (h + 308) 11 50 = some (h + 332) := gR_M sh_308 rfl (by decide) (by decide)
theorem g_308_51 : gR (M h s) (h + 308) 11 51 = some (h + 333) := gR_M sh_308 rfl (by decide) (by decide)
theorem g_308_52 : gR (M h s) (h + 308) 11 52 = some (h + 334) := gR_M sh_308 rfl (by decide) (by decide)
theorem g_308_53 : gR (M h s) (h + 308) 11 53 = some (h + 335) := gR_M sh_308 rfl (by decide) (by decide)
theorem g_308_54 : gR (M h s) (h + 308) 11 54 = some (h + 336) := gR_M sh_308 rfl (by decide) (by decide)
theorem g_308_55 : gI (M h s) (h + 308) 11 55 = some (s.1 308 55) := gI_M sh_308 rfl (by decide)
theorem w_308_55 {v : Int32} : wrF (M h s) (h + 308) 11 55 (.int v) = some (M h (mI s 308 (upd (s.1 308) 55 v))) := wI_M sh_308 rfl (by decide)
theorem g_308_56 : gR (M h s) (h + 308) 11 56 = some (h + 337) := gR_M sh_308 rfl (by decide) (by decide)
theorem g_308_57 : gR (M h s) (h + 308) 11 57 = some (h + 338) := gR_M sh_308 rfl (by decide) (by decide)
theorem sh_1 : sh 1 = .inl (0, 300) := by decide +kernel
theorem a_1 {e : Int} (h1 : 0 ≤ e) (h2 : e < 300) : aI (M h s) (h + 1) 0 (i32 e) = some (s.1 1 e.toNat) := aI_M sh_1 (by decide) (by decide) h1 h2 (by decide)
theorem s_1 {e : Int} {v : Int32} (h1 : 0 ≤ e) (h2 : e < 300) : sI (M h s) (h + 1) (i32 e) v = some (M h (mI s 1 (upd (s.1 1) e.toNat v))) := sI_M sh_1 (by decide) h1 h2 (by decide)
theorem sh_4 : sh 4 = .inl (1, 12) := by decide +kernel
theorem a_4 {e : Int} (h1 : 0 ≤ e) (h2 : e < 12) : aL (M h s) (h + 4) (i32 e) = some (s.2 4 e.toNat) := aL_M sh_4 (by decide) h1 h2 (by decide)
theorem s_4 {e : Int} {v : Int64} (h1 : 0 ≤ e) (h2 : e < 12) : sL (M h s) (h + 4) (i32 e) v = some (M h (mL s 4 (vp_updL (s.2 4) e.toNat v))) := sL_M sh_4 (by decide) h1 h2 (by decide)
theorem sh_5 : sh 5 = .inl (1, 12) := by decide +kernel
theorem a_5 {e : Int} (h1 : 0 ≤ e) (h2 : e < 12) : aL (M h s) (h + 5) (i32 e) = some (s.2 5 e.toNat) := aL_M sh_5 (by decide) h1 h2 (by decide)
theorem s_5 {e : Int} {v : Int64} (h1 : 0 ≤ e) (h2 : e < 12) : sL (M h s) (h + 5) (i32 e) v = some (M h (mL s 5 (vp_updL (s.2 5) e.toNat v))) := sL_M sh_5 (by decide) h1 h2 (by decide)
theorem sh_6 : sh 6 = .inl (0, 5) := by decide +kernel
theorem a_6 {e : Int} (h1 : 0 ≤ e) (h2 : e < 5) : aI (M h s) (h + 6) 0 (i32 e) = some (s.1 6 e.toNat) := aI_M sh_6 (by decide) (by decide) h1 h2 (by decide)
theorem s_6 {e : Int} {v : Int32} (h1 : 0 ≤ e) (h2 : e < 5) : sI (M h s) (h + 6) (i32 e) v = some (M h (mI s 6 (upd (s.1 6) e.toNat v))) := sI_M sh_6 (by decide) h1 h2 (by decide)
theorem sh_7 : sh 7 = .inl (0, 5) := by decide +kernel
theorem a_7 {e : Int} (h1 : 0 ≤ e) (h2 : e < 5) : aI (M h s) (h + 7) 0 (i32 e) = some (s.1 7 e.toNat) := aI_M sh_7 (by decide) (by decide) h1 h2 (by decide)
theorem s_7 {e : Int} {v : Int32} (h1 : 0 ≤ e) (h2 : e < 5) : sI (M h s) (h + 7) (i32 e) v = some (M h (mI s 7 (upd (s.1 7) e.toNat v))) := sI_M sh_7 (by decide) h1 h2 (by decide)
theorem sh_8 : sh 8 = .inl (0, 5) := by decide +kernel
theorem a_8 {e : Int} (h1 : 0 ≤ e) (h2 : e < 5) : aI (M h s) (h + 8) 0 (i32 e) = some (s.1 8 e.toNat) := aI_M sh_8 (by decide) (by decide) h1 h2 (by decide)
theorem s_8 {e : Int} {v : Int32} (h1 : 0 ≤ e) (h2 : e < 5) : sI (M h s) (h + 8) (i32 e) v = some (M h (mI s 8 (upd (s.1 8) e.toNat v))) := sI_M sh_8 (by decide) h1 h2 (by decide)
theorem sh_9 : sh 9 = .inl (1, 6) := by decide +kernel
theorem a_9 {e : Int} (h1 : 0 ≤ e) (h2 : e < 6) : aL (M h s) (h + 9) (i32 e) = some (s.2 9 e.toNat) := aL_M sh_9 (by decide) h1 h2 (by decide)
theorem s_9 {e : Int} {v : Int64} (h1 : 0 ≤ e) (h2 : e < 6) : sL (M h s) (h + 9) (i32 e) v = some (M h (mL s 9 (vp_updL (s.2 9) e.toNat v))) := sL_M sh_9 (by decide) h1 h2 (by decide)
theorem sh_10 : sh 10 = .inl (1, 6) := by decide +kernel
theorem a_10 {e : Int} (h1 : 0 ≤ e) (h2 : e < 6) : aL (M h s) (h + 10) (i32 e) = some (s.2 10 e.toNat) := aL_M sh_10 (by decide) h1 h2 (by decide)
theorem s_10 {e : Int} {v : Int64} (h1 : 0 ≤ e) (h2 : e < 6) : sL (M h s) (h + 10) (i32 e) v = some (M h (mL s 10 (vp_updL (s.2 10) e.toNat v))) := sL_M sh_10 (by decide) h1 h2 (by decide)
theorem sh_11 : sh 11 = .inl (0, 6) := by decide +kernel
theorem a_11 {e : Int} (h1 : 0 ≤ e) (h2 : e < 6) : aI (M h s) (h + 11) 0 (i32 e) = some (s.1 11 e.toNat) := aI_M sh_11 (by decide) (by decide) h1 h2 (by decide)
theorem s_11 {e : Int} {v : Int32} (h1 : 0 ≤ e) (h2 : e < 6) : sI (M h s) (h + 11) (i32 e) v = some (M h (mI s 11 (upd (s.1 11) e.toNat v))) := sI_M sh_11 (by decide) h1 h2 (by decide)
theorem sh_12 : sh 12 = .inl (0, 240) := by decide +kernel
theorem a_12 {e : Int} (h1 : 0 ≤ e) (h2 : e < 240) : aI (M h s) (h + 12) 0 (i32 e) = some (s.1 12 e.toNat) := aI_M sh_12 (by decide) (by decide) h1 h2 (by decide)
theorem s_12 {e : Int} {v : Int32} (h1 : 0 ≤ e) (h2 : e < 240) : sI (M h s) (h + 12) (i32 e) v = some (M h (mI s 12 (upd (s.1 12) e.toNat v))) := sI_M sh_12 (by decide) h1 h2 (by decide)
theorem sh_15 : sh 15 = .inl (1, 12) := by decide +kernel
theorem a_15 {e : Int} (h1 : 0 ≤ e) (h2 : e < 12) : aL (M h s) (h + 15) (i32 e) = some (s.2 15 e.toNat) := aL_M sh_15 (by decide) h1 h2 (by decide)
theorem s_15 {e : Int} {v : Int64} (h1 : 0 ≤ e) (h2 : e < 12) : sL (M h s) (h + 15) (i32 e) v = some (M h (mL s 15 (vp_updL (s.2 15) e.toNat v))) := sL_M sh_15 (by decide) h1 h2 (by decide)
theorem sh_16 : sh 16 = .inl (1, 12) := by decide +kernel
theorem a_16 {e : Int} (h1 : 0 ≤ e) (h2 : e < 12) : aL (M h s) (h + 16) (i32 e) = some (s.2 16 e.toNat) := aL_M sh_16 (by decide) h1 h2 (by decide)
theorem s_16 {e : Int} {v : Int64} (h1 : 0 ≤ e) (h2 : e < 12) : sL (M h s) (h + 16) (i32 e) v = some (M h (mL s 16 (vp_updL (s.2 16) e.toNat v))) := sL_M sh_16 (by decide) h1 h2 (by decide)
theorem sh_17 : sh 17 = .inl (0, 5) := by decide +kernel
theorem a_17 {e : Int} (h1 : 0 ≤ e) (h2 : e < 5) : aI (M h s) (h + 17) 0 (i32 e) = some (s.1 17 e.toNat) := aI_M sh_17 (by decide) (by decide) h1 h2 (by decide)
theorem s_17 {e : Int} {v : Int32} (h1 : 0 ≤ e) (h2 : e < 5) : sI (M h s) (h + 17) (i32 e) v = some (M h (mI s 17 (upd (s.1 17) e.toNat v))) := sI_M sh_17 (by decide) h1 h2 (by decide)
theorem sh_18 : sh 18 = .inl (0, 5) := by decide +kernel
theorem a_18 {e : Int} (h1 : 0 ≤ e) (h2 : e < 5) : aI (M h s) (h + 18) 0 (i32 e) = some (s.1 18 e.toNat) := aI_M sh_18 (by decide) (by decide) h1 h2 (by decide)
theorem s_18 {e : Int} {v : Int32} (h1 : 0 ≤ e) (h2 : e < 5) : sI (M h s) (h + 18) (i32 e) v = some (M h (mI s 18 (upd (s.1 18) e.toNat v))) := sI_M sh_18 (by decide) h1 h2 (by decide)
theorem sh_19 : sh 19 = .inl (0, 5) := by decide +kernel
theorem a_19 {e : Int} (h1 : 0 ≤ e) (h2 : e < 5) : aI (M h s) (h + 19) 0 (i32 e) = some (s.1 19 e.toNat) := aI_M sh_19 (by decide) (by decide) h1 h2 (by decide)
theorem s_19 {e : Int} {v : Int32} (h1 : 0 ≤ e) (h2 : e < 5) : sI (M h s) (h + 19) (i32 e) v = some (M h (mI s 19 (upd (s.1 19) e.toNat v))) := sI_M sh_19 (by decide) h1 h2 (by decide)
theorem sh_20 : sh 20 = .inl (1, 6) := by decide +kernel
theorem a_20 {e : Int} (h1 : 0 ≤ e) (h2 : e < 6) : aL (M h s) (h + 20) (i32 e) = some (s.2 20 e.toNat) := aL_M sh_20 (by decide) h1 h2 (by decide)
theorem s_20 {e : Int} {v : Int64} (h1 : 0 ≤ e) (h2 : e < 6) : sL (M h s) (h + 20) (i32 e) v = some (M h (mL s 20 (vp_updL (s.2 20) e.toNat v))) := sL_M sh_20 (by decide) h1 h2 (by decide)
theorem sh_21 : sh 21 = .inl (1, 6) := by decide +kernel
theorem a_21 {e : Int} (h1 : 0 ≤ e) (h2 : e < 6) : aL (M h s) (h + 21) (i32 e) = some (s.2 21 e.toNat) := aL_M sh_21 (by decide) h1 h2 (by decide)
theorem s_21 {e : Int} {v : Int64} (h1 : 0 ≤ e) (h2 : e < 6) : sL (M h s) (h + 21) (i32 e) v = some (M h (mL s 21 (vp_updL (s.2 21) e.toNat v))) := sL_M sh_21 (by decide) h1 h2 (by decide)
theorem sh_22 : sh 22 = .inl (0, 6) := by decide +kernel
theorem a_22 {e : Int} (h1 : 0 ≤ e) (h2 : e < 6) : aI (M h s) (h + 22) 0 (i32 e) = some (s.1 22 e.toNat) := aI_M sh_22 (by decide) (by decide) h1 h2 (by decide)
theorem s_22 {e : Int} {v : Int32} (h1 : 0 ≤ e) (h2 : e < 6) : sI (M h s) (h + 22) (i32 e) v = some (M h (mI s 22 (upd (s.1 22) e.toNat v))) := sI_M sh_22 (by decide) h1 h2 (by decide)
theorem sh_23 : sh 23 = .inl (0, 240) := by decide +kernel
theorem a_23 {e : Int} (h1 : 0 ≤ e) (h2 : e < 240) : aI (M h s) (h + 23) 0 (i32 e) = some (s.1 23 e.toNat) := aI_M sh_23 (by decide) (by decide) h1 h2 (by decide)
theorem s_23 {e : Int} {v : Int32} (h1 : 0 ≤ e) (h2 : e < 240) : sI (M h s) (h + 23) (i32 e) v = some (M h (mI s 23 (upd (s.1 23) e.toNat v))) := sI_M sh_23 (by decide) h1 h2 (by decide)
theorem sh_248 : sh 248 = .inl (1, 12) := by decide +kernel
theorem a_248 {e : Int} (h1 : 0 ≤ e) (h2 : e < 12) : aL (M h s) (h + 248) (i32 e) = some (s.2 248 e.toNat) := aL_M sh_248 (by decide) h1 h2 (by decide)
theorem s_248 {e : Int} {v : Int64} (h1 : 0 ≤ e) (h2 : e < 12) : sL (M h s) (h + 248) (i32 e) v = some (M h (mL s 248 (vp_updL (s.2 248) e.toNat v))) := sL_M sh_248 (by decide) h1 h2 (by decide)
theorem sh_249 : sh 249 = .inl (1, 12) := by decide +kernel
theorem a_249 {e : Int} (h1 : 0 ≤ e) (h2 : e < 12) : aL (M h s) (h + 249) (i32 e) = some (s.2 249 e.toNat) := aL_M sh_249 (by decide) h1 h2 (by decide)
theorem s_249 {e : Int} {v : Int64} (h1 : 0 ≤ e) (h2 : e < 12) : sL (M h s) (h + 249) (i32 e) v = some (M h (mL s 249 (vp_updL (s.2 249) e.toNat v))) := sL_M sh_249 (by decide) h1 h2 (by decide)
theorem sh_250 : sh 250 = .inl (0, 5) := by decide +kernel
theorem a_250 {e : Int} (h1 : 0 ≤ e) (h2 : e < 5) : aI (M h s) (h + 250) 0 (i32 e) = some (s.1 250 e.toNat) := aI_M sh_250 (by decide) (by decide) h1 h2 (by decide)
theorem s_250 {e : Int} {v : Int32} (h1 : 0 ≤ e) (h2 : e < 5) : sI (M h s) (h + 250) (i32 e) v = some (M h (mI s 250 (upd (s.1 250) e.toNat v))) := sI_M sh_250 (by decide) h1 h2 (by decide)
theorem sh_251 : sh 251 = .inl (0, 5) := by decide +kernel
theorem a_251 {e : Int} (h1 : 0 ≤ e) (h2 : e < 5) : aI (M h s) (h + 251) 0 (i32 e) = some (s.1 251 e.toNat) := aI_M sh_251 (by decide) (by decide) h1 h2 (by decide)
theorem s_251 {e : Int} {v : Int32} (h1 : 0 ≤ e) (h2 : e < 5) : sI (M h s) (h + 251) (i32 e) v = some (M h (mI s 251 (upd (s.1 251) e.toNat v))) := sI_M sh_251 (by decide) h1 h2 (by decide)
theorem sh_252 : sh 252 = .inl (0, 5) := by decide +kernel
theorem a_252 {e : Int} (h1 : 0 ≤ e) (h2 : e < 5) : aI (M h s) (h + 252) 0 (i32 e) = some (s.1 252 e.toNat) := aI_M sh_252 (by decide) (by decide) h1 h2 (by decide)
theorem s_252 {e : Int} {v : Int32} (h1 : 0 ≤ e) (h2 : e < 5) : sI (M h s) (h + 252) (i32 e) v = some (M h (mI s 252 (upd (s.1 252) e.toNat v))) := sI_M sh_252 (by decide) h1 h2 (by decide)
theorem sh_254 : sh 254 = .inl (1, 61) := by decide +kernel
theorem a_254 {e : Int} (h1 : 0 ≤ e) (h2 : e < 61) : aL (M h s) (h + 254) (i32 e) = some (s.2 254 e.toNat) := aL_M sh_254 (by decide) h1 h2 (by decide)
theorem s_254 {e : Int} {v : Int64} (h1 : 0 ≤ e) (h2 : e < 61) : sL (M h s) (h + 254) (i32 e) v = some (M h (mL s 254 (vp_updL (s.2 254) e.toNat v))) := sL_M sh_254 (by decide) h1 h2 (by decide)
theorem sh_255 : sh 255 = .inl (0, 60) := by decide +kernel
theorem a_255 {e : Int} (h1 : 0 ≤ e) (h2 : e < 60) : aI (M h s) (h + 255) 0 (i32 e) = some (s.1 255 e.toNat) := aI_M sh_255 (by decide) (by decide) h1 h2 (by decide)
theorem s_255 {e : Int} {v : Int32} (h1 : 0 ≤ e) (h2 : e < 60) : sI (M h s) (h + 255) (i32 e) v = some (M h (mI s 255 (upd (s.1 255) e.toNat v))) := sI_M sh_255 (by decide) h1 h2 (by decide)
theorem sh_257 : sh 257 = .inl (1, 2304) := by decide +kernel
theorem a_257 {e : Int} (h1 : 0 ≤ e) (h2 : e < 2304) : aL (M h s) (h + 257) (i32 e) = some (s.2 257 e.toNat) := aL_M sh_257 (by decide) h1 h2 (by decide)
theorem s_257 {e : Int} {v : Int64} (h1 : 0 ≤ e) (h2 : e < 2304) : sL (M h s) (h + 257) (i32 e) v = some (M h (mL s 257 (vp_updL (s.2 257) e.toNat v))) := sL_M sh_257 (by decide) h1 h2 (by decide)
theorem sh_258 : sh 258 = .inl (0, 2304) := by decide +kernel
theorem a_258 {e : Int} (h1 : 0 ≤ e) (h2 : e < 2304) : aI (M h s) (h + 258) 0 (i32 e) = some (s.1 258 e.toNat) := aI_M sh_258 (by decide) (by decide) h1 h2 (by decide)
theorem s_258 {e : Int} {v : Int32} (h1 : 0 ≤ e) (h2 : e < 2304) : sI (M h s) (h + 258) (i32 e) v = some (M h (mI s 258 (upd (s.1 258) e.toNat v))) := sI_M sh_258 (by decide) h1 h2 (by decide)
theorem sh_259 : sh 259 = .inl (2, 2304) := by decide +kernel
theorem a_259 {e : Int} (h1 : 0 ≤ e) (h2 : e < 2304) : aI (M h s) (h + 259) 2 (i32 e) = some (s.1 259 e.toNat) := aI_M sh_259 (by decide) (by decide) h1 h2 (by decide)
theorem s_259 {e : Int} {v : Int32} (h1 : 0 ≤ e) (h2 : e < 2304) : sB (M h s) (h + 259) (i32 e) v = some (M h (mI s 259 (upd (s.1 259) e.toNat (vp_nar .byte v)))) := sB_M sh_259 (by decide) h1 h2 (by decide)
theorem sh_261 : sh 261 = .inl (1, 200) := by decide +kernel
theorem a_261 {e : Int} (h1 : 0 ≤ e) (h2 : e < 200) : aL (M h s) (h + 261) (i32 e) = some (s.2 261 e.toNat) := aL_M sh_261 (by decide) h1 h2 (by decide)
theorem s_261 {e : Int} {v : Int64} (h1 : 0 ≤ e) (h2 : e < 200) : sL (M h s) (h + 261) (i32 e) v = some (M h (mL s 261 (vp_updL (s.2 261) e.toNat v))) := sL_M sh_261 (by decide) h1 h2 (by decide)
theorem sh_262 : sh 262 = .inl (0, 200) := by decide +kernel
theorem a_262 {e : Int} (h1 : 0 ≤ e) (h2 : e < 200) : aI (M h s) (h + 262) 0 (i32 e) = some (s.1 262 e.toNat) := aI_M sh_262 (by decide) (by decide) h1 h2 (by decide)
theorem s_262 {e : Int} {v : Int32} (h1 : 0 ≤ e) (h2 : e < 200) : sI (M h s) (h + 262) (i32 e) v = some (M h (mI s 262 (upd (s.1 262) e.toNat v))) := sI_M sh_262 (by decide) h1 h2 (by decide)
theorem sh_263 : sh 263 = .inl (0, 512) := by decide +kernel
theorem a_263 {e : Int} (h1 : 0 ≤ e) (h2 : e < 512) : aI (M h s) (h + 263) 0 (i32 e) = some (s.1 263 e.toNat) := aI_M sh_263 (by decide) (by decide) h1 h2 (by decide)
theorem s_263 {e : Int} {v : Int32} (h1 : 0 ≤ e) (h2 : e < 512) : sI (M h s) (h + 263) (i32 e) v = some (M h (mI s 263 (upd (s.1 263) e.toNat v))) := sI_M sh_263 (by decide) h1 h2 (by decide)
theorem sh_265 : sh 265 = .inl (1, 200) := by decide +kernel
theorem a_265 {e : Int} (h1 : 0 ≤ e) (h2 : e < 200) : aL (M h s) (h + 265) (i32 e) = some (s.2 265 e.toNat) := aL_M sh_265 (by decide) h1 h2 (by decide)
theorem s_265 {e : Int} {v : Int64} (h1 : 0 ≤ e) (h2 : e < 200) : sL (M h s) (h + 265) (i32 e) v = some (M h (mL s 265 (vp_updL (s.2 265) e.toNat v))) := sL_M sh_265 (by decide) h1 h2 (by decide)
theorem sh_266 : sh 266 = .inl (0, 200) := by decide +kernel
theorem a_266 {e : Int} (h1 : 0 ≤ e) (h2 : e < 200) : aI (M h s) (h + 266) 0 (i32 e) = some (s.1 266 e.toNat) := aI_M sh_266 (by decide) (by decide) h1 h2 (by decide)
theorem s_266 {e : Int} {v : Int32} (h1 : 0 ≤ e) (h2 : e < 200) : sI (M h s) (h + 266) (i32 e) v = some (M h (mI s 266 (upd (s.1 266) e.toNat v))) := sI_M sh_266 (by decide) h1 h2 (by decide)
theorem sh_267 : sh 267 = .inl (0, 512) := by decide +kernel
theorem a_267 {e : Int} (h1 : 0 ≤ e) (h2 : e < 512) : aI (M h s) (h + 267) 0 (i32 e) = some (s.1 267 e.toNat) := aI_M sh_267 (by decide) (by decide) h1 h2 (by decide)
theorem s_267 {e : Int} {v : Int32} (h1 : 0 ≤ e) (h2 : e < 512) : sI (M h s) (h + 267) (i32 e) v = some (M h (mI s 267 (upd (s.1 267) e.toNat v))) := sI_M sh_267 (by decide) h1 h2 (by decide)
theorem sh_269 : sh 269 = .inl (1, 200) := by decide +kernel
theorem a_269 {e : Int} (h1 : 0 ≤ e) (h2 : e < 200) : aL (M h s) (h + 269) (i32 e) = some (s.2 269 e.toNat) := aL_M sh_269 (by decide) h1 h2 (by decide)
theorem s_269 {e : Int} {v : Int64} (h1 : 0 ≤ e) (h2 : e < 200) : sL (M h s) (h + 269) (i32 e) v = some (M h (mL s 269 (vp_updL (s.2 269) e.toNat v))) := sL_M sh_269 (by decide) h1 h2 (by decide)
theorem sh_270 : sh 270 = .inl (0, 200) := by decide +kernel
theorem a_270 {e : Int} (h1 : 0 ≤ e) (h2 : e < 200) : aI (M h s) (h + 270) 0 (i32 e) = some (s.1 270 e.toNat) := aI_M sh_270 (by decide) (by decide) h1 h2 (by decide)
theorem s_270 {e : Int} {v : Int32} (h1 : 0 ≤ e) (h2 : e < 200) : sI (M h s) (h + 270) (i32 e) v = some (M h (mI s 270 (upd (s.1 270) e.toNat v))) := sI_M sh_270 (by decide) h1 h2 (by decide)
theorem sh_271 : sh 271 = .inl (0, 512) := by decide +kernel
theorem a_271 {e : Int} (h1 : 0 ≤ e) (h2 : e < 512) : aI (M h s) (h + 271) 0 (i32 e) = some (s.1 271 e.toNat) := aI_M sh_271 (by decide) (by decide) h1 h2 (by decide)
theorem s_271 {e : Int} {v : Int32} (h1 : 0 ≤ e) (h2 : e < 512) : sI (M h s) (h + 271) (i32 e) v = some (M h (mI s 271 (upd (s.1 271) e.toNat v))) := sI_M sh_271 (by decide) h1 h2 (by decide)
theorem sh_273 : sh 273 = .inl (1, 85) := by decide +kernel
theorem a_273 {e : Int} (h1 : 0 ≤ e) (h2 : e < 85) : aL (M h s) (h + 273) (i32 e) = some (s.2 273 e.toNat) := aL_M sh_273 (by decide) h1 h2 (by decide)
theorem s_273 {e : Int} {v : Int64} (h1 : 0 ≤ e) (h2 : e < 85) : sL (M h s) (h + 273) (i32 e) v = some (M h (mL s 273 (vp_updL (s.2 273) e.toNat v))) := sL_M sh_273 (by decide) h1 h2 (by decide)
theorem sh_274 : sh 274 = .inl (0, 425) := by decide +kernel
theorem a_274 {e : Int} (h1 : 0 ≤ e) (h2 : e < 425) : aI (M h s) (h + 274) 0 (i32 e) = some (s.1 274 e.toNat) := aI_M sh_274 (by decide) (by decide) h1 h2 (by decide)
theorem s_274 {e : Int} {v : Int32} (h1 : 0 ≤ e) (h2 : e < 425) : sI (M h s) (h + 274) (i32 e) v = some (M h (mI s 274 (upd (s.1 274) e.toNat v))) := sI_M sh_274 (by decide) h1 h2 (by decide)
theorem sh_275 : sh 275 = .inl (0, 85) := by decide +kernel
theorem a_275 {e : Int} (h1 : 0 ≤ e) (h2 : e < 85) : aI (M h s) (h + 275) 0 (i32 e) = some (s.1 275 e.toNat) := aI_M sh_275 (by decide) (by decide) h1 h2 (by decide)
theorem s_275 {e : Int} {v : Int32} (h1 : 0 ≤ e) (h2 : e < 85) : sI (M h s) (h + 275) (i32 e) v = some (M h (mI s 275 (upd (s.1 275) e.toNat v))) := sI_M sh_275 (by decide) h1 h2 (by decide)
theorem sh_276 : sh 276 = .inl (0, 85) := by decide +kernel
theorem a_276 {e : Int} (h1 : 0 ≤ e) (h2 : e < 85) : aI (M h s) (h + 276) 0 (i32 e) = some (s.1 276 e.toNat) := aI_M sh_276 (by decide) (by decide) h1 h2 (by decide)
theorem s_276 {e : Int} {v : Int32} (h1 : 0 ≤ e) (h2 : e < 85) : sI (M h s) (h + 276) (i32 e) v = some (M h (mI s 276 (upd (s.1 276) e.toNat v))) := sI_M sh_276 (by decide) h1 h2 (by decide)
theorem sh_278 : sh 278 = .inl (0, 5) := by decide +kernel
theorem a_278 {e : Int} (h1 : 0 ≤ e) (h2 : e < 5) : aI (M h s) (h + 278) 0 (i32 e) = some (s.1 278 e.toNat) := aI_M sh_278 (by decide) (by decide) h1 h2 (by decide)
theorem s_278 {e : Int} {v : Int32} (h1 : 0 ≤ e) (h2 : e < 5) : sI (M h s) (h + 278) (i32 e) v = some (M h (mI s 278 (upd (s.1 278) e.toNat v))) := sI_M sh_278 (by decide) h1 h2 (by decide)
theorem sh_280 : sh 280 = .inl (0, 5) := by decide +kernel
theorem a_280 {e : Int} (h1 : 0 ≤ e) (h2 : e < 5) : aI (M h s) (h + 280) 0 (i32 e) = some (s.1 280 e.toNat) := aI_M sh_280 (by decide) (by decide) h1 h2 (by decide)
theorem s_280 {e : Int} {v : Int32} (h1 : 0 ≤ e) (h2 : e < 5) : sI (M h s) (h + 280) (i32 e) v = some (M h (mI s 280 (upd (s.1 280) e.toNat v))) := sI_M sh_280 (by decide) h1 h2 (by decide)
theorem sh_282 : sh 282 = .inl (0, 656) := by decide +kernel
theorem a_282 {e : Int} (h1 : 0 ≤ e) (h2 : e < 656) : aI (M h s) (h + 282) 0 (i32 e) = some (s.1 282 e.toNat) := aI_M sh_282 (by decide) (by decide) h1 h2 (by decide)
theorem s_282 {e : Int} {v : Int32} (h1 : 0 ≤ e) (h2 : e < 656) : sI (M h s) (h + 282) (i32 e) v = some (M h (mI s 282 (upd (s.1 282) e.toNat v))) := sI_M sh_282 (by decide) h1 h2 (by decide)
theorem sh_283 : sh 283 = .inl (0, 656) := by decide +kernel
theorem a_283 {e : Int} (h1 : 0 ≤ e) (h2 : e < 656) : aI (M h s) (h + 283) 0 (i32 e) = some (s.1 283 e.toNat) := aI_M sh_283 (by decide) (by decide) h1 h2 (by decide)
theorem s_283 {e : Int} {v : Int32} (h1 : 0 ≤ e) (h2 : e < 656) : sI (M h s) (h + 283) (i32 e) v = some (M h (mI s 283 (upd (s.1 283) e.toNat v))) := sI_M sh_283 (by decide) h1 h2 (by decide)
theorem sh_284 : sh 284 = .inl (0, 656) := by decide +kernel
theorem a_284 {e : Int} (h1 : 0 ≤ e) (h2 : e < 656) : aI (M h s) (h + 284) 0 (i32 e) = some (s.1 284 e.toNat) := aI_M sh_284 (by decide) (by decide) h1 h2 (by decide)
theorem s_284 {e : Int} {v : Int32} (h1 : 0 ≤ e) (h2 : e < 656) : sI (M h s) (h + 284) (i32 e) v = some (M h (mI s 284 (upd (s.1 284) e.toNat v))) := sI_M sh_284 (by decide) h1 h2 (by decide)
theorem sh_285 : sh 285 = .inl (0, 640) := by decide +kernel
theorem a_285 {e : Int} (h1 : 0 ≤ e) (h2 : e < 640) : aI (M h s) (h + 285) 0 (i32 e) = some (s.1 285 e.toNat) := aI_M sh_285 (by decide) (by decide) h1 h2 (by decide)
theorem s_285 {e : Int} {v : Int32} (h1 : 0 ≤ e) (h2 : e < 640) : sI (M h s) (h + 285) (i32 e) v = some (M h (mI s 285 (upd (s.1 285) e.toNat v))) := sI_M sh_285 (by decide) h1 h2 (by decide)
theorem sh_286 : sh 286 = .inl (0, 40) := by decide +kernel
theorem a_286 {e : Int} (h1 : 0 ≤ e) (h2 : e < 40) : aI (M h s) (h + 286) 0 (i32 e) = some (s.1 286 e.toNat) := aI_M sh_286 (by decide) (by decide) h1 h2 (by decide)
theorem s_286 {e : Int} {v : Int32} (h1 : 0 ≤ e) (h2 : e < 40) : sI (M h s) (h + 286) (i32 e) v = some (M h (mI s 286 (upd (s.1 286) e.toNat v))) := sI_M sh_286 (by decide) h1 h2 (by decide)
theorem sh_287 : sh 287 = .inl (0, 40) := by decide +kernel
theorem a_287 {e : Int} (h1 : 0 ≤ e) (h2 : e < 40) : aI (M h s) (h + 287) 0 (i32 e) = some (s.1 287 e.toNat) := aI_M sh_287 (by decide) (by decide) h1 h2 (by decide)
theorem s_287 {e : Int} {v : Int32} (h1 : 0 ≤ e) (h2 : e < 40) : sI (M h s) (h + 287) (i32 e) v = some (M h (mI s 287 (upd (s.1 287) e.toNat v))) := sI_M sh_287 (by decide) h1 h2 (by decide)
theorem sh_288 : sh 288 = .inl (0, 40) := by decide +kernel
theorem a_288 {e : Int} (h1 : 0 ≤ e) (h2 : e < 40) : aI (M h s) (h + 288) 0 (i32 e) = some (s.1 288 e.toNat) := aI_M sh_288 (by decide) (by decide) h1 h2 (by decide)
theorem s_288 {e : Int} {v : Int32} (h1 : 0 ≤ e) (h2 : e < 40) : sI (M h s) (h + 288) (i32 e) v = some (M h (mI s 288 (upd (s.1 288) e.toNat v))) := sI_M sh_288 (by decide) h1 h2 (by decide)
theorem sh_289 : sh 289 = .inl (0, 40) := by decide +kernel
theorem a_289 {e : Int} (h1 : 0 ≤ e) (h2 : e < 40) : aI (M h s) (h + 289) 0 (i32 e) = some (s.1 289 e.toNat) := aI_M sh_289 (by decide) (by decide) h1 h2 (by decide)
theorem s_289 {e : Int} {v : Int32} (h1 : 0 ≤ e) (h2 : e < 40) : sI (M h s) (h + 289) (i32 e) v = some (M h (mI s 289 (upd (s.1 289) e.toNat v))) := sI_M sh_289 (by decide) h1 h2 (by decide)
theorem sh_290 : sh 290 = .inl (0, 40) := by decide +kernel
theorem a_290 {e : Int} (h1 : 0 ≤ e) (h2 : e < 40) : aI (M h s) (h + 290) 0 (i32 e) = some (s.1 290 e.toNat) := aI_M sh_290 (by decide) (by decide) h1 h2 (by decide)
theorem s_290 {e : Int} {v : Int32} (h1 : 0 ≤ e) (h2 : e < 40) : sI (M h s) (h + 290) (i32 e) v = some (M h (mI s 290 (upd (s.1 290) e.toNat v))) := sI_M sh_290 (by decide) h1 h2 (by decide)
theorem sh_291 : sh 291 = .inl (0, 40) := by decide +kernel
theorem a_291 {e : Int} (h1 : 0 ≤ e) (h2 : e < 40) : aI (M h s) (h + 291) 0 (i32 e) = some (s.1 291 e.toNat) := aI_M sh_291 (by decide) (by decide) h1 h2 (by decide)
theorem s_291 {e : Int} {v : Int32} (h1 : 0 ≤ e) (h2 : e < 40) : sI (M h s) (h + 291) (i32 e) v = some (M h (mI s 291 (upd (s.1 291) e.toNat v))) := sI_M sh_291 (by decide) h1 h2 (by decide)
theorem sh_292 : sh 292 = .inl (0, 40) := by decide +kernel
theorem a_292 {e : Int} (h1 : 0 ≤ e) (h2 : e < 40) : aI (M h s) (h + 292) 0 (i32 e) = some (s.1 292 e.toNat) := aI_M sh_292 (by decide) (by decide) h1 h2 (by decide)
theorem s_292 {e : Int} {v : Int32} (h1 : 0 ≤ e) (h2 : e < 40) : sI (M h s) (h + 292) (i32 e) v = some (M h (mI s 292 (upd (s.1 292) e.toNat v))) := sI_M sh_292 (by decide) h1 h2 (by decide)
theorem sh_293 : sh 293 = .inl (0, 40) := by decide +kernel
theorem a_293 {e : Int} (h1 : 0 ≤ e) (h2 : e < 40) : aI (M h s) (h + 293) 0 (i32 e) = some (s.1 293 e.toNat) := aI_M sh_293 (by decide) (by decide) h1 h2 (by decide)
theorem s_293 {e : Int} {v : Int32} (h1 : 0 ≤ e) (h2 : e < 40) : sI (M h s) (h + 293) (i32 e) v = some (M h (mI s 293 (upd (s.1 293) e.toNat v))) := sI_M sh_293 (by decide) h1 h2 (by decide)
theorem sh_295 : sh 295 = .inl (0, 656) := by decide +kernel
theorem a_295 {e : Int} (h1 : 0 ≤ e) (h2 : e < 656) : aI (M h s) (h + 295) 0 (i32 e) = some (s.1 295 e.toNat) := aI_M sh_295 (by decide) (by decide) h1 h2 (by decide)
theorem s_295 {e : Int} {v : Int32} (h1 : 0 ≤ e) (h2 : e < 656) : sI (M h s) (h + 295) (i32 e) v = some (M h (mI s 295 (upd (s.1 295) e.toNat v))) := sI_M sh_295 (by decide) h1 h2 (by decide)
theorem sh_296 : sh 296 = .inl (0, 656) := by decide +kernel
theorem a_296 {e : Int} (h1 : 0 ≤ e) (h2 : e < 656) : aI (M h s) (h + 296) 0 (i32 e) = some (s.1 296 e.toNat) := aI_M sh_296 (by decide) (by decide) h1 h2 (by decide)
theorem s_296 {e : Int} {v : Int32} (h1 : 0 ≤ e) (h2 : e < 656) : sI (M h s) (h + 296) (i32 e) v = some (M h (mI s 296 (upd (s.1 296) e.toNat v))) := sI_M sh_296 (by decide) h1 h2 (by decide)
theorem sh_297 : sh 297 = .inl (0, 656) := by decide +kernel
theorem a_297 {e : Int} (h1 : 0 ≤ e) (h2 : e < 656) : aI (M h s) (h + 297) 0 (i32 e) = some (s.1 297 e.toNat) := aI_M sh_297 (by decide) (by decide) h1 h2 (by decide)
theorem s_297 {e : Int} {v : Int32} (h1 : 0 ≤ e) (h2 : e < 656) : sI (M h s) (h + 297) (i32 e) v = some (M h (mI s 297 (upd (s.1 297) e.toNat v))) := sI_M sh_297 (by decide) h1 h2 (by decide)
theorem sh_298 : sh 298 = .inl (0, 640) := by decide +kernel
theorem a_298 {e : Int} (h1 : 0 ≤ e) (h2 : e < 640) : aI (M h s) (h + 298) 0 (i32 e) = some (s.1 298 e.toNat) := aI_M sh_298 (by decide) (by decide) h1 h2 (by decide)
theorem s_298 {e : Int} {v : Int32} (h1 : 0 ≤ e) (h2 : e < 640) : sI (M h s) (h + 298) (i32 e) v = some (M h (mI s 298 (upd (s.1 298) e.toNat v))) := sI_M sh_298 (by decide) h1 h2 (by decide)
theorem sh_299 : sh 299 = .inl (0, 40) := by decide +kernel
theorem a_299 {e : Int} (h1 : 0 ≤ e) (h2 : e < 40) : aI (M h s) (h + 299) 0 (i32 e) = some (s.1 299 e.toNat) := aI_M sh_299 (by decide) (by decide) h1 h2 (by decide)
theorem s_299 {e : Int} {v : Int32} (h1 : 0 ≤ e) (h2 : e < 40) : sI (M h s) (h + 299) (i32 e) v = some (M h (mI s 299 (upd (s.1 299) e.toNat v))) := sI_M sh_299 (by decide) h1 h2 (by decide)
theorem sh_300 : sh 300 = .inl (0, 40) := by decide +kernel
theorem a_300 {e : Int} (h1 : 0 ≤ e) (h2 : e < 40) : aI (M h s) (h + 300) 0 (i32 e) = some (s.1 300 e.toNat) := aI_M sh_300 (by decide) (by decide) h1 h2 (by decide)
theorem s_300 {e : Int} {v : Int32} (h1 : 0 ≤ e) (h2 : e < 40) : sI (M h s) (h + 300) (i32 e) v = some (M h (mI s 300 (upd (s.1 300) e.toNat v))) := sI_M sh_300 (by decide) h1 h2 (by decide)
theorem sh_301 : sh 301 = .inl (0, 40) := by decide +kernel
theorem a_301 {e : Int} (h1 : 0 ≤ e) (h2 : e < 40) : aI (M h s) (h + 301) 0 (i32 e) = some (s.1 301 e.toNat) := aI_M sh_301 (by decide) (by decide) h1 h2 (by decide)
theorem s_301 {e : Int} {v : Int32} (h1 : 0 ≤ e) (h2 : e < 40) : sI (M h s) (h + 301) (i32 e) v = some (M h (mI s 301 (upd (s.1 301) e.toNat v))) := sI_M sh_301 (by decide) h1 h2 (by decide)
theorem sh_302 : sh 302 = .inl (0, 40) := by decide +kernel
theorem a_302 {e : Int} (h1 : 0 ≤ e) (h2 : e < 40) : aI (M h s) (h + 302) 0 (i32 e) = some (s.1 302 e.toNat) := aI_M sh_302 (by decide) (by decide) h1 h2 (by decide)
theorem s_302 {e : Int} {v : Int32} (h1 : 0 ≤ e) (h2 : e < 40) : sI (M h s) (h + 302) (i32 e) v = some (M h (mI s 302 (upd (s.1 302) e.toNat v))) := sI_M sh_302 (by decide) h1 h2 (by decide)
theorem sh_303 : sh 303 = .inl (0, 40) := by decide +kernel
theorem a_303 {e : Int} (h1 : 0 ≤ e) (h2 : e < 40) : aI (M h s) (h + 303) 0 (i32 e) = some (s.1 303 e.toNat) := aI_M sh_303 (by decide) (by decide) h1 h2 (by decide)
theorem s_303 {e : Int} {v : Int32} (h1 : 0 ≤ e) (h2 : e < 40) : sI (M h s) (h + 303) (i32 e) v = some (M h (mI s 303 (upd (s.1 303) e.toNat v))) := sI_M sh_303 (by decide) h1 h2 (by decide)
theorem sh_304 : sh 304 = .inl (0, 40) := by decide +kernel
theorem a_304 {e : Int} (h1 : 0 ≤ e) (h2 : e < 40) : aI (M h s) (h + 304) 0 (i32 e) = some (s.1 304 e.toNat) := aI_M sh_304 (by decide) (by decide) h1 h2 (by decide)
theorem s_304 {e : Int} {v : Int32} (h1 : 0 ≤ e) (h2 : e < 40) : sI (M h s) (h + 304) (i32 e) v = some (M h (mI s 304 (upd (s.1 304) e.toNat v))) := sI_M sh_304 (by decide) h1 h2 (by decide)
theorem sh_305 : sh 305 = .inl (0, 40) := by decide +kernel
theorem a_305 {e : Int} (h1 : 0 ≤ e) (h2 : e < 40) : aI (M h s) (h + 305) 0 (i32 e) = some (s.1 305 e.toNat) := aI_M sh_305 (by decide) (by decide) h1 h2 (by decide)
theorem s_305 {e : Int} {v : Int32} (h1 : 0 ≤ e) (h2 : e < 40) : sI (M h s) (h + 305) (i32 e) v = some (M h (mI s 305 (upd (s.1 305) e.toNat v))) := sI_M sh_305 (by decide) h1 h2 (by decide)
theorem sh_306 : sh 306 = .inl (0, 40) := by decide +kernel
theorem a_306 {e : Int} (h1 : 0 ≤ e) (h2 : e < 40) : aI (M h s) (h + 306) 0 (i32 e) = some (s.1 306 e.toNat) := aI_M sh_306 (by decide) (by decide) h1 h2 (by decide)
theorem s_306 {e : Int} {v : Int32} (h1 : 0 ≤ e) (h2 : e < 40) : sI (M h s) (h + 306) (i32 e) v = some (M h (mI s 306 (upd (s.1 306) e.toNat v))) := sI_M sh_306 (by decide) h1 h2 (by decide)
theorem sh_307 : sh 307 = .inl (0, 430) := by decide +kernel
theorem a_307 {e : Int} (h1 : 0 ≤ e) (h2 : e < 430) : aI (M h s) (h + 307) 0 (i32 e) = some (s.1 307 e.toNat) := aI_M sh_307 (by decide) (by decide) h1 h2 (by decide)
theorem s_307 {e : Int} {v : Int32} (h1 : 0 ≤ e) (h2 : e < 430) : sI (M h s) (h + 307) (i32 e) v = some (M h (mI s 307 (upd (s.1 307) e.toNat v))) := sI_M sh_307 (by decide) h1 h2 (by decide)
theorem sh_309 : sh 309 = .inl (1, 294) := by decide +kernel
theorem a_309 {e : Int} (h1 : 0 ≤ e) (h2 : e < 294) : aL (M h s) (h + 309) (i32 e) = some (s.2 309 e.toNat) := aL_M sh_309 (by decide) h1 h2 (by decide)
theorem s_309 {e : Int} {v : Int64} (h1 : 0 ≤ e) (h2 : e < 294) : sL (M h s) (h + 309) (i32 e) v = some (M h (mL s 309 (vp_updL (s.2 309) e.toNat v))) := sL_M sh_309 (by decide) h1 h2 (by decide)
theorem sh_310 : sh 310 = .inl (1, 5880) := by decide +kernel
theorem a_310 {e : Int} (h1 : 0 ≤ e) (h2 : e < 5880) : aL (M h s) (h + 310) (i32 e) = some (s.2 310 e.toNat) := aL_M sh_310 (by decide) h1 h2 (by decide)
theorem s_310 {e : Int} {v : Int64} (h1 : 0 ≤ e) (h2 : e < 5880) : sL (M h s) (h + 310) (i32 e) v = some (M h (mL s 310 (vp_updL (s.2 310) e.toNat v))) := sL_M sh_310 (by decide) h1 h2 (by decide)
theorem sh_311 : sh 311 = .inl (1, 294) := by decide +kernel
theorem a_311 {e : Int} (h1 : 0 ≤ e) (h2 : e < 294) : aL (M h s) (h + 311) (i32 e) = some (s.2 311 e.toNat) := aL_M sh_311 (by decide) h1 h2 (by decide)
theorem s_311 {e : Int} {v : Int64} (h1 : 0 ≤ e) (h2 : e < 294) : sL (M h s) (h + 311) (i32 e) v = some (M h (mL s 311 (vp_updL (s.2 311) e.toNat v))) := sL_M sh_311 (by decide) h1 h2 (by decide)
theorem sh_312 : sh 312 = .inl (2, 300) := by decide +kernel
theorem a_312 {e : Int} (h1 : 0 ≤ e) (h2 : e < 300) : aI (M h s) (h + 312) 2 (i32 e) = some (s.1 312 e.toNat) := aI_M sh_312 (by decide) (by decide) h1 h2 (by decide)
theorem s_312 {e : Int} {v : Int32} (h1 : 0 ≤ e) (h2 : e < 300) : sB (M h s) (h + 312) (i32 e) v = some (M h (mI s 312 (upd (s.1 312) e.toNat (vp_nar .byte v)))) := sB_M sh_312 (by decide) h1 h2 (by decide)
theorem sh_313 : sh 313 = .inl (1, 294) := by decide +kernel
theorem a_313 {e : Int} (h1 : 0 ≤ e) (h2 : e < 294) : aL (M h s) (h + 313) (i32 e) = some (s.2 313 e.toNat) := aL_M sh_313 (by decide) h1 h2 (by decide)
theorem s_313 {e : Int} {v : Int64} (h1 : 0 ≤ e) (h2 : e < 294) : sL (M h s) (h + 313) (i32 e) v = some (M h (mL s 313 (vp_updL (s.2 313) e.toNat v))) := sL_M sh_313 (by decide) h1 h2 (by decide)
theorem sh_314 : sh 314 = .inl (1, 61) := by decide +kernel
theorem a_314 {e : Int} (h1 : 0 ≤ e) (h2 : e < 61) : aL (M h s) (h + 314) (i32 e) = some (s.2 314 e.toNat) := aL_M sh_314 (by decide) h1 h2 (by decide)
theorem s_314 {e : Int} {v : Int64} (h1 : 0 ≤ e) (h2 : e < 61) : sL (M h s) (h + 314) (i32 e) v = some (M h (mL s 314 (vp_updL (s.2 314) e.toNat v))) := sL_M sh_314 (by decide) h1 h2 (by decide)
theorem sh_315 : sh 315 = .inl (0, 60) := by decide +kernel
theorem a_315 {e : Int} (h1 : 0 ≤ e) (h2 : e < 60) : aI (M h s) (h + 315) 0 (i32 e) = some (s.1 315 e.toNat) := aI_M sh_315 (by decide) (by decide) h1 h2 (by decide)
theorem s_315 {e : Int} {v : Int32} (h1 : 0 ≤ e) (h2 : e < 60) : sI (M h s) (h + 315) (i32 e) v = some (M h (mI s 315 (upd (s.1 315) e.toNat v))) := sI_M sh_315 (by decide) h1 h2 (by decide)
theorem sh_316 : sh 316 = .inl (0, 60) := by decide +kernel
theorem a_316 {e : Int} (h1 : 0 ≤ e) (h2 : e < 60) : aI (M h s) (h + 316) 0 (i32 e) = some (s.1 316 e.toNat) := aI_M sh_316 (by decide) (by decide) h1 h2 (by decide)
theorem s_316 {e : Int} {v : Int32} (h1 : 0 ≤ e) (h2 : e < 60) : sI (M h s) (h + 316) (i32 e) v = some (M h (mI s 316 (upd (s.1 316) e.toNat v))) := sI_M sh_316 (by decide) h1 h2 (by decide)
theorem sh_317 : sh 317 = .inl (1, 400) := by decide +kernel
theorem a_317 {e : Int} (h1 : 0 ≤ e) (h2 : e < 400) : aL (M h s) (h + 317) (i32 e) = some (s.2 317 e.toNat) := aL_M sh_317 (by decide) h1 h2 (by decide)
theorem s_317 {e : Int} {v : Int64} (h1 : 0 ≤ e) (h2 : e < 400) : sL (M h s) (h + 317) (i32 e) v = some (M h (mL s 317 (vp_updL (s.2 317) e.toNat v))) := sL_M sh_317 (by decide) h1 h2 (by decide)
theorem sh_318 : sh 318 = .inl (0, 400) := by decide +kernel
theorem a_318 {e : Int} (h1 : 0 ≤ e) (h2 : e < 400) : aI (M h s) (h + 318) 0 (i32 e) = some (s.1 318 e.toNat) := aI_M sh_318 (by decide) (by decide) h1 h2 (by decide)
theorem s_318 {e : Int} {v : Int32} (h1 : 0 ≤ e) (h2 : e < 400) : sI (M h s) (h + 318) (i32 e) v = some (M h (mI s 318 (upd (s.1 318) e.toNat v))) := sI_M sh_318 (by decide) h1 h2 (by decide)
theorem sh_319 : sh 319 = .inl (0, 2) := by decide +kernel
theorem a_319 {e : Int} (h1 : 0 ≤ e) (h2 : e < 2) : aI (M h s) (h + 319) 0 (i32 e) = some (s.1 319 e.toNat) := aI_M sh_319 (by decide) (by decide) h1 h2 (by decide)
theorem s_319 {e : Int} {v : Int32} (h1 : 0 ≤ e) (h2 : e < 2) : sI (M h s) (h + 319) (i32 e) v = some (M h (mI s 319 (upd (s.1 319) e.toNat v))) := sI_M sh_319 (by decide) h1 h2 (by decide)
theorem sh_320 : sh 320 = .inl (0, 5) := by decide +kernel
theorem a_320 {e : Int} (h1 : 0 ≤ e) (h2 : e < 5) : aI (M h s) (h + 320) 0 (i32 e) = some (s.1 320 e.toNat) := aI_M sh_320 (by decide) (by decide) h1 h2 (by decide)
theorem s_320 {e : Int} {v : Int32} (h1 : 0 ≤ e) (h2 : e < 5) : sI (M h s) (h + 320) (i32 e) v = some (M h (mI s 320 (upd (s.1 320) e.toNat v))) := sI_M sh_320 (by decide) h1 h2 (by decide)
theorem sh_321 : sh 321 = .inl (0, 5) := by decide +kernel
theorem a_321 {e : Int} (h1 : 0 ≤ e) (h2 : e < 5) : aI (M h s) (h + 321) 0 (i32 e) = some (s.1 321 e.toNat) := aI_M sh_321 (by decide) (by decide) h1 h2 (by decide)
theorem s_321 {e : Int} {v : Int32} (h1 : 0 ≤ e) (h2 : e < 5) : sI (M h s) (h + 321) (i32 e) v = some (M h (mI s 321 (upd (s.1 321) e.toNat v))) := sI_M sh_321 (by decide) h1 h2 (by decide)
theorem sh_322 : sh 322 = .inl (0, 32) := by decide +kernel
theorem a_322 {e : Int} (h1 : 0 ≤ e) (h2 : e < 32) : aI (M h s) (h + 322) 0 (i32 e) = some (s.1 322 e.toNat) := aI_M sh_322 (by decide) (by decide) h1 h2 (by decide)
theorem s_322 {e : Int} {v : Int32} (h1 : 0 ≤ e) (h2 : e < 32) : sI (M h s) (h + 322) (i32 e) v = some (M h (mI s 322 (upd (s.1 322) e.toNat v))) := sI_M sh_322 (by decide) h1 h2 (by decide)
theorem sh_323 : sh 323 = .inl (0, 32) := by decide +kernel
theorem a_323 {e : Int} (h1 : 0 ≤ e) (h2 : e < 32) : aI (M h s) (h + 323) 0 (i32 e) = some (s.1 323 e.toNat) := aI_M sh_323 (by decide) (by decide) h1 h2 (by decide)
theorem s_323 {e : Int} {v : Int32} (h1 : 0 ≤ e) (h2 : e < 32) : sI (M h s) (h + 323) (i32 e) v = some (M h (mI s 323 (upd (s.1 323) e.toNat v))) := sI_M sh_323 (by decide) h1 h2 (by decide)
theorem sh_324 : sh 324 = .inl (2, 500) := by decide +kernel
theorem a_324 {e : Int} (h1 : 0 ≤ e) (h2 : e < 500) : aI (M h s) (h + 324) 2 (i32 e) = some (s.1 324 e.toNat) := aI_M sh_324 (by decide) (by decide) h1 h2 (by decide)
theorem s_324 {e : Int} {v : Int32} (h1 : 0 ≤ e) (h2 : e < 500) : sB (M h s) (h + 324) (i32 e) v = some (M h (mI s 324 (upd (s.1 324) e.toNat (vp_nar .byte v)))) := sB_M sh_324 (by decide) h1 h2 (by decide)
theorem sh_325 : sh 325 = .inl (0, 700) := by decide +kernel
theorem a_325 {e : Int} (h1 : 0 ≤ e) (h2 : e < 700) : aI (M h s) (h + 325) 0 (i32 e) = some (s.1 325 e.toNat) := aI_M sh_325 (by decide) (by decide) h1 h2 (by decide)
theorem s_325 {e : Int} {v : Int32} (h1 : 0 ≤ e) (h2 : e < 700) : sI (M h s) (h + 325) (i32 e) v = some (M h (mI s 325 (upd (s.1 325) e.toNat v))) := sI_M sh_325 (by decide) h1 h2 (by decide)
theorem sh_326 : sh 326 = .inl (0, 700) := by decide +kernel
theorem a_326 {e : Int} (h1 : 0 ≤ e) (h2 : e < 700) : aI (M h s) (h + 326) 0 (i32 e) = some (s.1 326 e.toNat) := aI_M sh_326 (by decide) (by decide) h1 h2 (by decide)
theorem s_326 {e : Int} {v : Int32} (h1 : 0 ≤ e) (h2 : e < 700) : sI (M h s) (h + 326) (i32 e) v = some (M h (mI s 326 (upd (s.1 326) e.toNat v))) := sI_M sh_326 (by decide) h1 h2 (by decide)
theorem sh_327 : sh 327 = .inl (0, 640) := by decide +kernel
theorem a_327 {e : Int} (h1 : 0 ≤ e) (h2 : e < 640) : aI (M h s) (h + 327) 0 (i32 e) = some (s.1 327 e.toNat) := aI_M sh_327 (by decide) (by decide) h1 h2 (by decide)
theorem s_327 {e : Int} {v : Int32} (h1 : 0 ≤ e) (h2 : e < 640) : sI (M h s) (h + 327) (i32 e) v = some (M h (mI s 327 (upd (s.1 327) e.toNat v))) := sI_M sh_327 (by decide) h1 h2 (by decide)
theorem sh_328 : sh 328 = .inl (0, 40) := by decide +kernel
theorem a_328 {e : Int} (h1 : 0 ≤ e) (h2 : e < 40) : aI (M h s) (h + 328) 0 (i32 e) = some (s.1 328 e.toNat) := aI_M sh_328 (by decide) (by decide) h1 h2 (by decide)
theorem s_328 {e : Int} {v : Int32} (h1 : 0 ≤ e) (h2 : e < 40) : sI (M h s) (h + 328) (i32 e) v = some (M h (mI s 328 (upd (s.1 328) e.toNat v))) := sI_M sh_328 (by decide) h1 h2 (by decide)
theorem sh_329 : sh 329 = .inl (0, 40) := by decide +kernel
theorem a_329 {e : Int} (h1 : 0 ≤ e) (h2 : e < 40) : aI (M h s) (h + 329) 0 (i32 e) = some (s.1 329 e.toNat) := aI_M sh_329 (by decide) (by decide) h1 h2 (by decide)
theorem s_329 {e : Int} {v : Int32} (h1 : 0 ≤ e) (h2 : e < 40) : sI (M h s) (h + 329) (i32 e) v = some (M h (mI s 329 (upd (s.1 329) e.toNat v))) := sI_M sh_329 (by decide) h1 h2 (by decide)
theorem sh_330 : sh 330 = .inl (0, 40) := by decide +kernel
theorem a_330 {e : Int} (h1 : 0 ≤ e) (h2 : e < 40) : aI (M h s) (h + 330) 0 (i32 e) = some (s.1 330 e.toNat) := aI_M sh_330 (by decide) (by decide) h1 h2 (by decide)
theorem s_330 {e : Int} {v : Int32} (h1 : 0 ≤ e) (h2 : e < 40) : sI (M h s) (h + 330) (i32 e) v = some (M h (mI s 330 (upd (s.1 330) e.toNat v))) := sI_M sh_330 (by decide) h1 h2 (by decide)
theorem sh_331 : sh 331 = .inl (0, 40) := by decide +kernel
theorem a_331 {e : Int} (h1 : 0 ≤ e) (h2 : e < 40) : aI (M h s) (h + 331) 0 (i32 e) = some (s.1 331 e.toNat) := aI_M sh_331 (by decide) (by decide) h1 h2 (by decide)
theorem s_331 {e : Int} {v : Int32} (h1 : 0 ≤ e) (h2 : e < 40) : sI (M h s) (h + 331) (i32 e) v = some (M h (mI s 331 (upd (s.1 331) e.toNat v))) := sI_M sh_331 (by decide) h1 h2 (by decide)
theorem sh_332 : sh 332 = .inl (0, 40) := by decide +kernel
theorem a_332 {e : Int} (h1 : 0 ≤ e) (h2 : e < 40) : aI (M h s) (h + 332) 0 (i32 e) = some (s.1 332 e.toNat) := aI_M sh_332 (by decide) (by decide) h1 h2 (by decide)
theorem s_332 {e : Int} {v : Int32} (h1 : 0 ≤ e) (h2 : e < 40) : sI (M h s) (h + 332) (i32 e) v = some (M h (mI s 332 (upd (s.1 332) e.toNat v))) := sI_M sh_332 (by decide) h1 h2 (by decide)
theorem sh_333 : sh 333 = .inl (0, 40) := by decide +kernel
theorem a_333 {e : Int} (h1 : 0 ≤ e) (h2 : e < 40) : aI (M h s) (h + 333) 0 (i32 e) = some (s.1 333 e.toNat) := aI_M sh_333 (by decide) (by decide) h1 h2 (by decide)
theorem s_333 {e : Int} {v : Int32} (h1 : 0 ≤ e) (h2 : e < 40) : sI (M h s) (h + 333) (i32 e) v = some (M h (mI s 333 (upd (s.1 333) e.toNat v))) := sI_M sh_333 (by decide) h1 h2 (by decide)
theorem sh_334 : sh 334 = .inl (0, 40) := by decide +kernel
theorem a_334 {e : Int} (h1 : 0 ≤ e) (h2 : e < 40) : aI (M h s) (h + 334) 0 (i32 e) = some (s.1 334 e.toNat) := aI_M sh_334 (by decide) (by decide) h1 h2 (by decide)
theorem s_334 {e : Int} {v : Int32} (h1 : 0 ≤ e) (h2 : e < 40) : sI (M h s) (h + 334) (i32 e) v = some (M h (mI s 334 (upd (s.1 334) e.toNat v))) := sI_M sh_334 (by decide) h1 h2 (by decide)
theorem sh_335 : sh 335 = .inl (0, 40) := by decide +kernel
theorem a_335 {e : Int} (h1 : 0 ≤ e) (h2 : e < 40) : aI (M h s) (h + 335) 0 (i32 e) = some (s.1 335 e.toNat) := aI_M sh_335 (by decide) (by decide) h1 h2 (by decide)
theorem s_335 {e : Int} {v : Int32} (h1 : 0 ≤ e) (h2 : e < 40) : sI (M h s) (h + 335) (i32 e) v = some (M h (mI s 335 (upd (s.1 335) e.toNat v))) := sI_M sh_335 (by decide) h1 h2 (by decide)
theorem sh_336 : sh 336 = .inl (0, 700) := by decide +kernel
theorem a_336 {e : Int} (h1 : 0 ≤ e) (h2 : e < 700) : aI (M h s) (h + 336) 0 (i32 e) = some (s.1 336 e.toNat) := aI_M sh_336 (by decide) (by decide) h1 h2 (by decide)
theorem s_336 {e : Int} {v : Int32} (h1 : 0 ≤ e) (h2 : e < 700) : sI (M h s) (h + 336) (i32 e) v = some (M h (mI s 336 (upd (s.1 336) e.toNat v))) := sI_M sh_336 (by decide) h1 h2 (by decide)
theorem sh_337 : sh 337 = .inl (0, 40) := by decide +kernel
theorem a_337 {e : Int} (h1 : 0 ≤ e) (h2 : e < 40) : aI (M h s) (h + 337) 0 (i32 e) = some (s.1 337 e.toNat) := aI_M sh_337 (by decide) (by decide) h1 h2 (by decide)
theorem s_337 {e : Int} {v : Int32} (h1 : 0 ≤ e) (h2 : e < 40) : sI (M h s) (h + 337) (i32 e) v = some (M h (mI s 337 (upd (s.1 337) e.toNat v))) := sI_M sh_337 (by decide) h1 h2 (by decide)
theorem sh_338 : sh 338 = .inl (0, 40) := by decide +kernel
theorem a_338 {e : Int} (h1 : 0 ≤ e) (h2 : e < 40) : aI (M h s) (h + 338) 0 (i32 e) = some (s.1 338 e.toNat) := aI_M sh_338 (by decide) (by decide) h1 h2 (by decide)
theorem s_338 {e : Int} {v : Int32} (h1 : 0 ≤ e) (h2 : e < 40) : sI (M h s) (h + 338) (i32 e) v = some (M h (mI s 338 (upd (s.1 338) e.toNat v))) := sI_M sh_338 (by decide) h1 h2 (by decide)
theorem sh_339 : sh 339 = .inl (1, 1) := by decide +kernel
theorem a_339 {e : Int} (h1 : 0 ≤ e) (h2 : e < 1) : aL (M h s) (h + 339) (i32 e) = some (s.2 339 e.toNat) := aL_M sh_339 (by decide) h1 h2 (by decide)
theorem s_339 {e : Int} {v : Int64} (h1 : 0 ≤ e) (h2 : e < 1) : sL (M h s) (h + 339) (i32 e) v = some (M h (mL s 339 (vp_updL (s.2 339) e.toNat v))) := sL_M sh_339 (by decide) h1 h2 (by decide)
end MM
