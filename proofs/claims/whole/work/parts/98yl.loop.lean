/-! THE LOOP -/
section LP
variable {h : Nat} {s : Mm} {g : Gst} {N : Nat}
theorem sc_at {sx : Nat → Int32} {L j : Nat} (hL : L ≤ 3072) (hj : j < L) : sc sx L (i32 (j : Int)) = some (sx j) := by
  have e : (i32 (j : Int)).toNatClampNeg = j := by
    show (i32 (j : Int)).toInt.toNat = j
    rw [t32 (by omega) (by omega)]; omega
  unfold sc
  rw [e, if_neg]
  intro h9
  rcases h9 with h9 | h9
  · rw [q0, lt32 (by omega) (by omega) (by omega) (by omega)] at h9; omega
  · omega
theorem kone {sx : Nat → Int32} {L k : Nat} (hL : L ≤ 3072) (hk : 6 * k + 6 ≤ L) (hI : Inv s N g) (hN : N ≤ 900000) : KOK h N (fIter sx L (h + 0) (h + 308) (h + 339) (i32 ((6 * k : Nat) : Int)) (M h s)) := by
  have ad : ∀ j : Nat, j < 6 → i32 ((6 * k : Nat) : Int) + i32 (j : Int) = i32 ((6 * k + j : Nat) : Int) := fun j hj => by
    rw [a32]; rfl
  have hy : Sc5 sx L (i32 ((6 * k : Nat) : Int)) (fun j => sx (6 * k + j)) := by
    refine ⟨?_, ?_, ?_, ?_, ?_⟩
    · rw [show (1 : Int32) = i32 ((1 : Nat) : Int) from by decide, ad 1 (by decide), sc_at hL (by omega)]
    · rw [show (2 : Int32) = i32 ((2 : Nat) : Int) from by decide, ad 2 (by decide), sc_at hL (by omega)]
    · rw [show (3 : Int32) = i32 ((3 : Nat) : Int) from by decide, ad 3 (by decide), sc_at hL (by omega)]
    · rw [show (4 : Int32) = i32 ((4 : Nat) : Int) from by decide, ad 4 (by decide), sc_at hL (by omega)]
    · rw [show (5 : Int32) = i32 ((5 : Nat) : Int) from by decide, ad 5 (by decide), sc_at hL (by omega)]
  unfold fIter
  rw [sc_at hL (by omega), sb]
  obtain ⟨v, ev⟩ : ∃ v, v = sx (6 * k) &&& 63 := ⟨_, rfl⟩
  rw [← ev]
  by_cases c : v.toInt < 0 ∨ 33 < v.toInt
  · rw [if_pos c]
    exact ⟨s, g, rfl, hI.1.mono (by omega), hI.2.1, hI.2.2.1, by omega⟩
  · rw [if_neg c]
    by_cases e0 : v = 0
    · rw [if_pos e0]
      exact k0 hI hN hy
    rw [if_neg e0]
    by_cases e1 : v = 1
    · rw [if_pos e1]
      exact k1 hI hN hy
    rw [if_neg e1]
    by_cases e2 : v = 2
    · rw [if_pos e2]
      exact k2 hI hN
    rw [if_neg e2]
    by_cases e3 : v = 3
    · rw [if_pos e3]
      exact k3 hI hN hy
    rw [if_neg e3]
    by_cases e4 : v = 4
    · rw [if_pos e4]
      exact k4 hI hN hy
    rw [if_neg e4]
    by_cases e5 : v = 5
    · rw [if_pos e5]
      exact k5 hI hN hy
    rw [if_neg e5]
    by_cases e6 : v = 6
    · rw [if_pos e6]
      exact k6 hI hN hy
    rw [if_neg e6]
    by_cases e7 : v = 7
    · rw [if_pos e7]
      exact k7 hI hN hy
    rw [if_neg e7]
    by_cases e8 : v = 8
    · rw [if_pos e8]
      exact k8 hI hN hy
    rw [if_neg e8]
    by_cases e9 : v = 9
    · rw [if_pos e9]
      exact k9 hI hN hy
    rw [if_neg e9]
    by_cases e10 : v = 10
    · rw [if_pos e10]
      exact k10 hI hN hy
    rw [if_neg e10]
    by_cases e11 : v = 11
    · rw [if_pos e11]
      exact k11 hI hN hy
    rw [if_neg e11]
    by_cases e12 : v = 12
    · rw [if_pos e12]
      exact k12 hI hN hy
    rw [if_neg e12]
    by_cases e13 : v = 13
    · rw [if_pos e13]
      exact k13 hI hN hy
    rw [if_neg e13]
    by_cases e14 : v = 14
    · rw [if_pos e14]
      exact k14 hI hN hy
    rw [if_neg e14]
    by_cases e15 : v = 15
    · rw [if_pos e15]
      exact k15 hI hN hy
    rw [if_neg e15]
    by_cases e16 : v = 16
    · rw [if_pos e16]
      exact k16 hI hN hy
    rw [if_neg e16]
    by_cases e17 : v = 17
    · rw [if_pos e17]
      exact k17 hI hN hy
    rw [if_neg e17]
    by_cases e18 : v = 18
    · rw [if_pos e18]
      exact k18 hI hN hy
    rw [if_neg e18]
    by_cases e19 : v = 19
    · rw [if_pos e19]
      exact k19 hI hN hy
    rw [if_neg e19]
    by_cases e20 : v = 20
    · rw [if_pos e20]
      exact k20 hI hN hy
    rw [if_neg e20]
    by_cases e21 : v = 21
    · rw [if_pos e21]
      exact k21 hI hN
    rw [if_neg e21]
    by_cases e22 : v = 22
    · rw [if_pos e22]
      exact k22 hI hN
    rw [if_neg e22]
    by_cases e23 : v = 23
    · rw [if_pos e23]
      exact k23 hI hN
    rw [if_neg e23]
    by_cases e24 : v = 24
    · rw [if_pos e24]
      exact k24 hI hN hy
    rw [if_neg e24]
    by_cases e25 : v = 25
    · rw [if_pos e25]
      exact k25 hI hN hy
    rw [if_neg e25]
    by_cases e26 : v = 26
    · rw [if_pos e26]
      exact k26 hI hN hy
    rw [if_neg e26]
    by_cases e27 : v = 27
    · rw [if_pos e27]
      exact k27 hI hN hy
    rw [if_neg e27]
    by_cases e28 : v = 28
    · rw [if_pos e28]
      exact k28 hI hN hy
    rw [if_neg e28]
    by_cases e29 : v = 29
    · rw [if_pos e29]
      exact k29 hI hN hy
    rw [if_neg e29]
    by_cases e30 : v = 30
    · rw [if_pos e30]
      exact k30 hI hN hy
    rw [if_neg e30]
    by_cases e31 : v = 31
    · rw [if_pos e31]
      exact k31 hI hN
    rw [if_neg e31]
    by_cases e32 : v = 32
    · rw [if_pos e32]
      exact k32 hI hN
    rw [if_neg e32]
    by_cases e33 : v = 33
    · rw [if_pos e33]
      exact k33 hI hN
    rw [if_neg e33]
    exfalso
    obtain ⟨a, ea, a1, a2⟩ := i32_ex v
    rw [ea, t32 a1 a2] at c
    rcases (show a = 0 ∨ a = 1 ∨ a = 2 ∨ a = 3 ∨ a = 4 ∨ a = 5 ∨ a = 6 ∨ a = 7 ∨ a = 8 ∨ a = 9 ∨ a = 10 ∨ a = 11 ∨ a = 12 ∨ a = 13 ∨ a = 14 ∨ a = 15 ∨ a = 16 ∨ a = 17 ∨ a = 18 ∨ a = 19 ∨ a = 20 ∨ a = 21 ∨ a = 22 ∨ a = 23 ∨ a = 24 ∨ a = 25 ∨ a = 26 ∨ a = 27 ∨ a = 28 ∨ a = 29 ∨ a = 30 ∨ a = 31 ∨ a = 32 ∨ a = 33 by omega) with rfl | rfl | rfl | rfl | rfl | rfl | rfl | rfl | rfl | rfl | rfl | rfl | rfl | rfl | rfl | rfl | rfl | rfl | rfl | rfl | rfl | rfl | rfl | rfl | rfl | rfl | rfl | rfl | rfl | rfl | rfl | rfl | rfl | rfl
    · exact e0 (ea.trans (by decide))
    · exact e1 (ea.trans (by decide))
    · exact e2 (ea.trans (by decide))
    · exact e3 (ea.trans (by decide))
    · exact e4 (ea.trans (by decide))
    · exact e5 (ea.trans (by decide))
    · exact e6 (ea.trans (by decide))
    · exact e7 (ea.trans (by decide))
    · exact e8 (ea.trans (by decide))
    · exact e9 (ea.trans (by decide))
    · exact e10 (ea.trans (by decide))
    · exact e11 (ea.trans (by decide))
    · exact e12 (ea.trans (by decide))
    · exact e13 (ea.trans (by decide))
    · exact e14 (ea.trans (by decide))
    · exact e15 (ea.trans (by decide))
    · exact e16 (ea.trans (by decide))
    · exact e17 (ea.trans (by decide))
    · exact e18 (ea.trans (by decide))
    · exact e19 (ea.trans (by decide))
    · exact e20 (ea.trans (by decide))
    · exact e21 (ea.trans (by decide))
    · exact e22 (ea.trans (by decide))
    · exact e23 (ea.trans (by decide))
    · exact e24 (ea.trans (by decide))
    · exact e25 (ea.trans (by decide))
    · exact e26 (ea.trans (by decide))
    · exact e27 (ea.trans (by decide))
    · exact e28 (ea.trans (by decide))
    · exact e29 (ea.trans (by decide))
    · exact e30 (ea.trans (by decide))
    · exact e31 (ea.trans (by decide))
    · exact e32 (ea.trans (by decide))
    · exact e33 (ea.trans (by decide))
theorem law_go {sx : Nat → Int32} {L : Nat} (hL : L ≤ 3072) : ∀ (n k : Nat) (s : Mm) (N : Nat) (g : Gst), n + k = 513 → N + 100 * n ≤ 900000 → Inv s N g → LawOk sx L (h + 0) (h + 308) (h + 339) n (i32 ((6 * k : Nat) : Int)) (M h s) := by
  intro n
  induction n with
  | zero =>
    intro k s N g hk hN hI
    show Int32.ofNat L - 6 < i32 ((6 * k : Nat) : Int)
    rw [ofNat32, show (6 : Int32) = i32 6 from by decide, s32]
    rw [lt32 (by omega) (by omega) (by omega) (by omega)]; omega
  | succ n ih =>
    intro k s N g hk hN hI
    show Int32.ofNat L - 6 < i32 ((6 * k : Nat) : Int) ∨ (¬ Int32.ofNat L - 6 < i32 ((6 * k : Nat) : Int) ∧ ∃ σ', fIter sx L (h + 0) (h + 308) (h + 339) (i32 ((6 * k : Nat) : Int)) (M h s) = some σ' ∧ LawOk sx L (h + 0) (h + 308) (h + 339) n (i32 ((6 * k : Nat) : Int) + 6) σ')
    by_cases c : (L : Int) - 6 < ((6 * k : Nat) : Int)
    · refine Or.inl ?_
      rw [ofNat32, show (6 : Int32) = i32 6 from by decide, s32]
      rw [lt32 (by omega) (by omega) (by omega) (by omega)]; omega
    · refine Or.inr ⟨?_, ?_⟩
      · rw [ofNat32, show (6 : Int32) = i32 6 from by decide, s32]
        rw [lt32 (by omega) (by omega) (by omega) (by omega)]; omega
      · obtain ⟨s', g', e, hI'⟩ := kone (h := h) (sx := sx) hL (show 6 * k + 6 ≤ L by omega) hI (by omega)
        refine ⟨M h s', e, ?_⟩
        have := ih (k + 1) s' (N + 100) g' (by omega) (by omega) hI'
        rw [show (6 : Int32) = i32 6 from by decide, a32]
        exact this
end LP
