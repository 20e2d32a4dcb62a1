/-! THE START: the invariant holds there; all of the pure part -/
section PA
variable {h : Nat} {e : Nat → Option xE}
theorem Q11.fr {e' : Nat → Option xE} (Q : Q11 h e) (hf : ∀ i, i < 308 → e' i = e i) : Q11 h e' := by
  obtain ⟨u0, u1, u2, u3, u4, u5, u6, u7, u8, u9, u10, u11, u12, u13, u14, u15, u16, u17⟩ := Q
  exact ⟨by rw [hf 0 (by decide)]; exact u0, by rw [hf 1 (by decide)]; exact u1, u2.fr (fun i a b => hf i (by omega)), u3.fr (fun i a b => hf i (by omega)), u4.fr (fun i a b => hf i (by omega)), u5.fr (fun i a b => hf i (Nat.lt_of_lt_of_le b (Nat.le_of_ble_eq_true rfl))), u6.fr (fun i a b => hf i (by omega)), u7.fr (fun i a b => hf i (Nat.lt_of_lt_of_le b (Nat.le_of_ble_eq_true rfl))), u8.fr (fun i a b => hf i (Nat.lt_of_lt_of_le b (Nat.le_of_ble_eq_true rfl))), u9.fr (fun i a b => hf i (Nat.lt_of_lt_of_le b (Nat.le_of_ble_eq_true rfl))), u10.fr (fun i a b => hf i (Nat.lt_of_lt_of_le b (Nat.le_of_ble_eq_true rfl))), u11.fr (fun i a b => hf i (Nat.lt_of_lt_of_le b (Nat.le_of_ble_eq_true rfl))), u12.fr (fun i a b => hf i (Nat.lt_of_lt_of_le b (Nat.le_of_ble_eq_true rfl))), u13.fr (fun i a b => hf i (Nat.lt_of_lt_of_le b (Nat.le_of_ble_eq_true rfl))), u14.fr (fun i a b => hf i (Nat.lt_of_lt_of_le b (Nat.le_of_ble_eq_true rfl))), u15.fr (fun i a b => hf i (Nat.lt_of_lt_of_le b (Nat.le_of_ble_eq_true rfl))), u16.fr (fun i a b => hf i (Nat.lt_of_lt_of_le b (Nat.le_of_ble_eq_true rfl))), by rw [hf 307 (by decide)]; exact u17⟩
theorem vx0 : VX X0 := ⟨sys0_wf (by decide) (by decide), fun q hq => ⟨⟨⟨Nat.zero_le _, fun x hx => by cases hx⟩, fun k hk => absurd hk (Nat.not_lt_zero k)⟩, Nat.zero_le _⟩⟩
theorem cv0 (Q : Q11 h e) : CV (dcM h e) 1 (X0, [], none, [], -1, []) := by
  obtain ⟨u0, u1, u2, u3, u4, u5, u6, u7, u8, u9, u10, u11, u12, _⟩ := Q
  obtain ⟨d0, ⟨r0, r1, r2, ⟨f3, r3, r3'⟩, ⟨f4, r4, r4'⟩, r5⟩, d7, d8, d9, d10⟩ := u2
  have i0 : (dcM h e).1 0 = _ := dcI_o u0
  have i3 : (dcM h e).1 (2 + 1) = _ := dcI_o r0
  have i6 : (dcM h e).1 (2 + 1 + 3) = _ := dcI_a r3
  have i7 : (dcM h e).1 (2 + 1 + 4) = _ := dcI_a r4
  have l9 : (dcM h e).2 (2 + 7) = _ := dcL_a d7
  have l10 : (dcM h e).2 (2 + 8) = _ := dcL_a d8
  have i11 : (dcM h e).1 (2 + 9) = _ := dcI_a d9
  have i24 : (dcM h e).1 24 = _ := dcI_o u4.1
  have i256 : (dcM h e).1 256 = _ := dcI_o u8.1
  have i260 : (dcM h e).1 260 = _ := dcI_o u9.1
  have i264 : (dcM h e).1 264 = _ := dcI_o u10.1
  have i268 : (dcM h e).1 268 = _ := dcI_o u11.1
  have i272 : (dcM h e).1 272 = _ := dcI_o u12.1
  have c0 : (0 : Int32) = i32 ((0 : Nat) : Int) := by decide
  have c1 : (1 : Int32) = i32 ((1 : Nat) : Int) := by decide
  refine ⟨⟨⟨(congrFun i3 0).trans (show (2 : Int32) = i32 ((2 : Nat) : Int) from by decide), (congrFun i3 1).trans c0, fun k hk => absurd hk (Nat.not_lt_zero k), fun k hk => absurd hk (Nat.not_lt_zero k), fun x hx => ?_, fun x hx => ?_⟩, fun q hq => ⟨(congrFun l9 q).trans ?_, (congrFun l10 q).trans ?_, (congrFun i11 q).trans c0, fun k hk => absurd hk (Nat.not_lt_zero k)⟩, vx0⟩, ⟨0, by decide, (congrFun i24 1).trans c0, (congrFun i24 2).trans c0, Nat.zero_le _, fun j hj => absurd hj (Nat.not_lt_zero j)⟩, (congrFun i0 5), ⟨(congrFun i0 1).trans c0, fun j hj => absurd hj (Nat.not_lt_zero j)⟩, (congrFun i0 2).trans (show (-1 : Int32) = i32 (-1) from by decide), ⟨(congrFun i0 19).trans c0, fun j hj => absurd hj (Nat.not_lt_zero j)⟩, ⟨1, by decide, (congrFun i3 6).trans c1, ?_, ?_, ?_, ⟨0, by decide, (congrFun i256 6).trans c0, fun h9 => absurd h9 (by decide)⟩, ⟨0, by decide, (congrFun i3 8).trans c0, fun h9 => absurd h9 (by decide)⟩⟩, 0, 1, rfl, ?_, ?_⟩
  · exact (congrFun i6 x).trans ((r3' x hx).trans c1)
  · exact (congrFun i7 x).trans (r4' x (Nat.lt_of_lt_of_le hx (by decide)))
  · show (0 : Int64) = i64 ((cw [] : Nat) : Int); decide
  · show (0 : Int64) = i64 ((cw [] : Nat) : Int); decide
  · exact ⟨(congrFun i260 1).trans (show (0 : Int32) = i32 (b32i false) from by decide), ⟨0, (congrFun i260 4).trans c0, by decide⟩, 0, by decide, (congrFun i260 9).trans c0, fun h9 => absurd h9 (by decide)⟩
  · exact ⟨(congrFun i264 1).trans (show (0 : Int32) = i32 (b32i false) from by decide), ⟨0, (congrFun i264 4).trans c0, by decide⟩, 0, by decide, (congrFun i264 9).trans c0, fun h9 => absurd h9 (by decide)⟩
  · exact ⟨(congrFun i268 1).trans (show (1 : Int32) = i32 (b32i true) from by decide), ⟨0, (congrFun i268 4).trans c0, by decide⟩, 0, by decide, (congrFun i268 9).trans c0, fun h9 => absurd h9 (by decide)⟩
  · refine (congrFun i272 4).trans ?_
    show (if h + 275 = h + 276 then (1 : Int32) else 0) = _
    rw [if_neg (by omega)]; exact c0
  · refine (congrFun i272 5).trans ?_
    show (if h + 276 = h + 276 then (1 : Int32) else 0) = _
    rw [if_pos rfl]; exact c1
theorem rv0 {f : Nat → Int64} (o : OB 308 11 (L12 h) (A12 f) e) (F : F12 f) : RV (dcM h e) (X0, [], none, [], -1, []) := by
  have i308 : (dcM h e).1 308 = _ := dcI_o o.1
  have l309 : (dcM h e).2 309 = f := dcL_a (o.2 0 (Nat.le_of_ble_eq_true rfl))
  have c0 : (0 : Int32) = i32 ((0 : Nat) : Int) := by decide
  have z0 : (0 : Int64) = i64 ((0 : Nat) : Int) := by decide
  obtain ⟨F0, F1, F2, F3, F4⟩ := F
  refine ⟨?_, ⟨(congrFun i308 5).trans c0, Nat.zero_le _, fun j hj => absurd hj (Nat.not_lt_zero j)⟩, (congrFun i308 4), ⟨(congrFun i308 7).trans c0, fun j hj => absurd hj (Nat.not_lt_zero j)⟩, (congrFun i308 14).trans (show (-1 : Int32) = i32 (-1) from by decide), ⟨(congrFun i308 41).trans c0, fun j hj => absurd hj (Nat.not_lt_zero j)⟩⟩
  rw [l309]
  refine ⟨⟨F0, F1.trans z0, fun x hx => F2 x hx, fun k hk => ⟨k, hk, F3 k (Nat.lt_of_lt_of_le hk (by decide)), rfl⟩, fun r hr => absurd hr (Nat.not_lt_zero r), fun r hr => absurd hr (Nat.not_lt_zero r)⟩, fun q hq => ⟨⟨(F4 _ (by omega) (by omega)).trans z0, (F4 _ (by omega) (by omega)).trans z0, fun k hk => absurd hk (Nat.not_lt_zero k), Nat.zero_le _⟩, (F4 _ (by omega) (by omega)).trans z0⟩, vx0⟩
theorem inv0 {f : Nat → Int64} (Q : Q11 h e) (o : OB 308 11 (L12 h) (A12 f) e) (F : F12 f) : Inv (dcM h e) 1 (X0, [], none, [], -1, []) :=
  ⟨cv0 Q, rv0 o F, ⟨Nat.zero_le _, fun j => by show bt [] j < 256; simp [bt], ⟨by decide, by decide⟩, Nat.zero_le _⟩, by decide⟩
end PA
theorem pure_all : PureAll := by
  intro h L sx hL
  obtain ⟨e1, k1, Q1⟩ := s11 (h := h) (e := eu (fun _ => none) 0 (.inr (10, v11))) eu_at
  obtain ⟨e2, f, k2, o2, F2, fr2⟩ := s12 (h := h) (e := eu e1 308 (.inr (11, v12))) eu_at
  have Q2 : Q11 h (eu e2 339 (zL 1)) := Q1.fr (fun i hi => by rw [eu_ne (by omega), fr2 i hi, eu_ne (by omega)])
  have o3 : OB 308 11 (L12 h) (A12 f) (eu e2 339 (zL 1)) := o2.fr (fun i a b => eu_ne (by
    have hl : (A12 f).length = 30 := rfl
    omega))
  have hM := Te_M (allc Q2 o3 eu_at)
  have k0 : xu (fun _ => none) h (.inr (10, v11)) = Te h (eu (fun _ => none) 0 (.inr (10, v11))) := (congrArg (fun σ => xu σ (h + 0) (.inr (10, v11))) (Te_0 (h := h))).trans (Te_xu (by decide))
  have hS : fStart h = some (M h (dcM h (eu e2 339 (zL 1)))) := by
    unfold fStart
    rw [xlet_eq, k0, show fX11_init (Te h (eu (fun _ => none) 0 (.inr (10, v11)))) (h + 1) h = _ from k1, sb, xlet_eq, Te_xu (by decide), k2, sb, xlet_eq, Te_xu (by decide), ← hM]
    rfl
  exact ⟨_, hS, law_go hL 513 0 _ 1 _ rfl (by decide) (inv0 Q2 o3 F2)⟩
