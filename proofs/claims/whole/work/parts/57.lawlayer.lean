/-! THE LAW'S OWN FRAME: the script, the room that is left -/
def sc (sx : Nat → Int32) (L : Nat) (i : Int32) : Option Int32 := if i < 0 ∨ L ≤ i.toNatClampNeg then none else some (sx i.toNatClampNeg)
def Scr (X : xX) (b L : Nat) (sx : Nat → Int32) : Prop := va_X b L sx (xs X) (xs X).heap ∧ b < (xs X).heap.size ∧ ¬ xA X b
theorem kle {k : Nat × Nat} (h : k.1 + 10 ≤ room_1.cells ∧ k.2 + 60 ≤ room_1.slots) (a b : Nat) (ha : Nat.ble a 10 = true) (hb : Nat.ble b 60 = true) : k.1 + a ≤ room_1.cells ∧ k.2 + b ≤ room_1.slots :=
  ⟨Nat.le_trans (Nat.add_le_add_left (Nat.le_of_ble_eq_true ha) _) h.1, Nat.le_trans (Nat.add_le_add_left (Nat.le_of_ble_eq_true hb) _) h.2⟩
section XZ
variable {X : xX} {k : Nat × Nat} {σ σ' : St} {pc : Nat} {lv : List (Nat × Value)} {st : List Value} {cc : ByteArray} {nL : Nat} {own : String} {rm : Room} {ret : Option FieldType} {b L : Nat} {sx : Nat → Int32}
theorem z_sld (C : Ok X cc nL own rm ret) (S : Scr X b L sx) {i v : Int32} (hv : sc sx L i = some v) (d : decode cc pc = .ok (.iaload, 1)) (pc' : Nat) (hp : pc + 1 = pc') (kk : Vz X k σ pc' lv (.int v :: st)) : Vz X k σ pc lv (.int i :: .ref b :: st) := by
  subst hp
  unfold sc at hv
  split at hv
  · cases hv
  · rename_i hin
    cases hv
    exact fun H locs ls hW hS hl => va_sld C.1 C.2.1 S.1 S.2.1 S.2.2 hS hin d (kk H locs ls hW hS hl)
theorem z_slen (C : Ok X cc nL own rm ret) (S : Scr X b L sx) (d : decode cc pc = .ok (.arraylength, 1)) (pc' : Nat) (hp : pc + 1 = pc') (kk : Vz X k σ pc' lv (.int (Int32.ofNat L) :: st)) : Vz X k σ pc lv (.ref b :: st) := by
  subst hp
  exact fun H locs ls hW hS hl => va_slen C.1 C.2.1 S.1 S.2.1 S.2.2 hS d (kk H locs ls hW hS hl)
theorem z_widen {k' : Nat × Nat} (h : k.1 ≤ k'.1 ∧ k.2 ≤ k'.2) (kk : Vz X k' σ pc lv st) : Vz X k σ pc lv st := fun H locs ls hW hS hl => W.widen h.1 h.2 (kk H locs ls hW hS hl)
end XZ
