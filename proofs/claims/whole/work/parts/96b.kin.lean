/-! KIN: both sides of it are one -/
theorem getD_5 {w : List Nat} (hw : ∀ x ∈ w, x < 5) (i : Nat) : w.getD i 0 < 5 := by
  by_cases c : i < w.length
  · exact getD_lt hw c
  · rw [List.getD_eq_getElem?_getD, List.getElem?_eq_none (by omega)]; decide
def kinP (t : Bool) (l r l' r' : List Nat) : Prop := l.length = l'.length ∧ r.length = r'.length ∧ pat (l ++ r) (tnd t l' ++ tnd t r')
section RF
variable {h : Nat} {s : Mm} {S : Sys}
theorem r_isKin (hS : WfS S) (hR : RR (s.2 309) S) {r o : Nat} (hr : r < nr S) (ho : o < nr S) (t : Bool) : ∃ (v : Int32) (f : Nat → Int32), fX12_isKin (M h s) (h + 308) (i32 (r : Int)) (i32 (o : Int)) (i32 (b32i t)) = some (v, M h (mI s 321 f)) ∧ ((v = 1 ∧ kinP t (rl S r) (rr S r) (rl S o) (rr S o)) ∨ (v = 0 ∧ ¬ kinP t (rl S r) (rr S r) (rl S o) (rr S o))) := by
  have hl := wl hS hr
  have hrr := wr hS hr
  have hlo := wl hS ho
  have hro := wr hS ho
  have ht5 : ∀ w : List Nat, Ww w → ∀ x ∈ tnd t w, x < 5 := fun w hw x hx => by
    unfold tnd at hx
    split at hx
    · exact hw.2 x (List.mem_reverse.mp hx)
    · exact hw.2 x hx
  have hA : ∀ i, (rl S r ++ rr S r).getD i 0 < 5 := getD_5 (fun x hx => by
    rcases List.mem_append.mp hx with hx | hx
    · exact hl.2 x hx
    · exact hrr.2 x hx)
  have hB : ∀ i, (tnd t (rl S o) ++ tnd t (rr S o)).getD i 0 < 5 := getD_5 (fun x hx => by
    rcases List.mem_append.mp hx with hx | hx
    · exact ht5 _ hlo x hx
    · exact ht5 _ hro x hx)
  obtain ⟨f0, f1, f2⟩ := r_clear (h := h) (s := s) (F := fLX12_isKin_3 (h + 308) (i32 (r : Int)) (i32 (o : Int)) (i32 (b32i t))) (fun a => rfl)
  have hR0 : RR ((mI s 321 f0).2 309) S := hR
  obtain ⟨v1, g1, z1, z2⟩ := r_named (h := h) (s := mI s 321 f0) hA hB hl hlo t (p := 0) (fun e => ⟨fun k hk => by rw [Nat.zero_add, getD_app1 hk], fun k hk => by rw [Nat.zero_add, getD_app1 (by rw [tnd_len]; omega)]⟩) (fun x hx => by rw [mI_at, f2 x hx]; rfl) (fun i j hi => absurd hi (by omega))
  rw [mI_mI] at z1
  have hR1 : RR ((mI s 321 g1).2 309) S := hR
  unfold fX12_isKin
  rw [f1, sb, o_308, sb, r_left hS hR0 hr, sb, sb, r_left hS hR0 ho, sb, sb, z1, sb]
  rw [Nat.zero_add] at z2
  rcases z2 with ⟨rfl, ⟨c1, c2⟩, c3⟩ | ⟨rfl, c1⟩
  · rw [if_neg (by show ¬ (1 : Int32) = 0; decide), o_308, sb, r_right hS hR1 hr, sb, sb, r_right hS hR1 ho, sb, sb]
    have hgd : ∀ (a m : List Nat) (n j : Nat), a.length = n → (a ++ m).getD (n + j) 0 = m.getD j 0 := fun a m n j hn => by
      rw [List.getD_eq_getElem?_getD, List.getD_eq_getElem?_getD, List.getElem?_append_right (by omega), ← hn, Nat.add_sub_cancel_left]
    obtain ⟨v2, g2, y1, y2⟩ := r_named (h := h) (s := mI s 321 g1) hA hB hrr hro t (p := (rl S r).length) (fun e => ⟨fun k hk => hgd _ _ _ _ rfl, fun k hk => hgd _ _ _ _ (by rw [tnd_len]; exact c1.symm)⟩) (fun x hx => by rw [mI_at, c3 x hx]) c2
    rw [mI_mI] at y1
    rw [y1, sb]
    have hpp : patN (rl S r ++ rr S r) (tnd t (rl S o) ++ tnd t (rr S o)) ((rl S r).length + (rr S r).length) ↔ pat (rl S r ++ rr S r) (tnd t (rl S o) ++ tnd t (rr S o)) := by
      unfold patN pat
      rw [List.length_append]
    rcases y2 with ⟨rfl, ⟨d1, d2⟩, -⟩ | ⟨rfl, d1⟩
    · rw [if_neg (by show ¬ (1 : Int32) = 0; decide)]
      exact ⟨1, g2, rfl, Or.inl ⟨rfl, c1, d1, hpp.mp d2⟩⟩
    · rw [if_pos (show (0 : Int32) = 0 from rfl)]
      exact ⟨0, g2, rfl, Or.inr ⟨rfl, fun hk => d1 ⟨hk.2.1, hpp.mpr hk.2.2⟩⟩⟩
  · rw [if_pos (show (0 : Int32) = 0 from rfl)]
    refine ⟨0, g1, rfl, Or.inr ⟨rfl, fun hk => c1 ⟨hk.1, fun i j hi hj => ?_⟩⟩⟩
    exact hk.2.2 i j (by rw [List.length_append]; omega) (by rw [List.length_append]; omega)
/-- two rules are kin -/
def kinB (l r l' r' : List Nat) : Prop := kinP false l r l' r' ∨ kinP true l r l' r'
theorem kin_hd {l r l' r' : List Nat} : ((hd l r).take l.length = (hd l' r').take l'.length ∧ (hd l r).drop l.length = (hd l' r').drop l'.length) ↔ kinB l r l' r' := by
  have hlen : ∀ a b : List Nat, (hd a b).length = a.length + b.length := fun a b => by
    unfold hd
    split
    · exact hB_len a b
    · exact hA_len a b
  have e0 : ∀ a b : List Nat, ((hd a b).take a.length).length = a.length ∧ ((hd a b).drop a.length).length = b.length := fun a b => by
    rw [List.length_take, List.length_drop, hlen]
    omega
  unfold kinB kinP
  constructor
  · rintro ⟨h1, h2⟩
    have l1 : l.length = l'.length := by
      have := congrArg List.length h1
      rw [(e0 l r).1, (e0 l' r').1] at this
      exact this
    have l2 : r.length = r'.length := by
      have := congrArg List.length h2
      rw [(e0 l r).2, (e0 l' r').2] at this
      exact this
    have e : hd l r = hd l' r' := by
      rw [← List.take_append_drop l.length (hd l r), ← List.take_append_drop l'.length (hd l' r'), h1, h2]
    rcases (hd_kin l1 l2).mp e with hp | hp
    · exact Or.inl ⟨l1, l2, hp⟩
    · exact Or.inr ⟨l1, l2, hp⟩
  · rintro (⟨l1, l2, hp⟩ | ⟨l1, l2, hp⟩)
    · have := (hd_kin l1 l2).mpr (Or.inl hp)
      rw [this, l1]
      exact ⟨rfl, rfl⟩
    · have := (hd_kin l1 l2).mpr (Or.inr hp)
      rw [this, l1]
      exact ⟨rfl, rfl⟩
theorem r_kin (hS : WfS S) (hR : RR (s.2 309) S) {r o : Nat} (hr : r < nr S) (ho : o < nr S) (h0 : s.1 308 0 = 0) : ∃ (v : Int32) (f : Nat → Int32), fJX12_areKin_m_27 (M h s) (h + 308) (i32 (r : Int)) (i32 (o : Int)) 1 (h + 308) = some (v, M h (mI s 321 f)) ∧ ((v = 1 ∧ kinB (rl S r) (rr S r) (rl S o) (rr S o)) ∨ (v = 0 ∧ ¬ kinB (rl S r) (rr S r) (rl S o) (rr S o))) := by
  obtain ⟨v1, f1, z1, z2⟩ := r_isKin (h := h) hS hR hr ho false
  have hR1 : RR ((mI s 321 f1).2 309) S := hR
  obtain ⟨v2, f2, y1, y2⟩ := r_isKin (h := h) hS hR1 hr ho true
  rw [mI_mI] at y1
  have z1 : fX12_isKin (M h s) (h + 308) (i32 (r : Int)) (i32 (o : Int)) 0 = _ := z1
  have y1 : fX12_isKin (M h (mI s 321 f1)) (h + 308) (i32 (r : Int)) (i32 (o : Int)) 1 = _ := y1
  unfold fJX12_areKin_m_27
  rw [o_308, sb, r_ok h0, sb, if_neg (by show ¬ (1 : Int32) = 0; decide), o_308, sb, z1, sb]
  rcases z2 with ⟨rfl, c1⟩ | ⟨rfl, c1⟩
  · rw [if_neg (by show ¬ (1 : Int32) = 0; decide)]
    exact ⟨1, f1, rfl, Or.inl ⟨rfl, Or.inl c1⟩⟩
  · rw [if_pos (show (0 : Int32) = 0 from rfl), o_308, sb, y1, sb]
    rcases y2 with ⟨rfl, c2⟩ | ⟨rfl, c2⟩
    · rw [if_neg (by show ¬ (1 : Int32) = 0; decide)]
      exact ⟨1, f2, rfl, Or.inl ⟨rfl, Or.inr c2⟩⟩
    · rw [if_pos (show (0 : Int32) = 0 from rfl)]
      exact ⟨0, f2, rfl, Or.inr ⟨rfl, fun hk => hk.elim c1 c2⟩⟩
end RF
