/-! KIN in the reference -/
theorem kv_at {A B : List Nat} {n : Nat} (hp : patN A B n) {j : Nat} (hj : j < n) : kv A B n (A.getD j 0) = ((B.getD j 0 : Nat) : Int) := by
  unfold kv
  cases hf : (List.range n).find? (fun i => decide (A.getD i 0 = A.getD j 0)) with
  | none =>
    have := find_none hf j hj
    simp at this
  | some i =>
    obtain ⟨h1, h2, -⟩ := find_some hf
    simp only []
    rw [(hp i j h1 hj).mp (of_decide_eq_true h2)]
theorem kv_no {A B : List Nat} {n x : Nat} (hx : ∀ j, j < n → ¬ A.getD j 0 = x) : kv A B n x = -1 := by
  unfold kv
  have : (List.range n).find? (fun i => decide (A.getD i 0 = x)) = none := by
    rw [List.find?_eq_none]
    intro i hi
    rw [decide_eq_true_eq]
    exact hx i (List.mem_range.mp hi)
  rw [this]
theorem kv_b {A B : List Nat} {n x : Nat} (hB : ∀ i, B.getD i 0 < 5) : -1 ≤ kv A B n x ∧ kv A B n x < 5 := by
  unfold kv
  cases (List.range n).find? (fun i => decide (A.getD i 0 = x)) with
  | none => simp only []; omega
  | some i => have := hB i; simp only []; omega
theorem kv_same {A B : List Nat} {n z : Nat} (hz : ¬ A.getD n 0 = z) : kv A B (n + 1) z = kv A B n z := by
  unfold kv
  rw [List.range_succ, List.find?_append]
  have : [n].find? (fun i => decide (A.getD i 0 = z)) = none := by
    rw [List.find?_eq_none]
    intro i hi
    rw [List.mem_singleton.mp hi, decide_eq_true_eq]; exact hz
  rw [this, Option.or_none]
def tkB (A B : List Nat) (n x y i : Nat) : Bool := decide (¬ i = x) && decide (kv A B n i = (y : Int))
theorem taken_iff {A B : List Nat} {n : Nat} (hp : patN A B n) (hA : ∀ i, A.getD i 0 < 5) {x y : Nat} : (List.range 5).foldl (fun b i => b || tkB A B n x y i) false = true ↔ ∃ j, j < n ∧ ¬ A.getD j 0 = x ∧ B.getD j 0 = y := by
  have key : ∀ (l : List Nat) (b : Bool), l.foldl (fun b i => b || tkB A B n x y i) b = true ↔ b = true ∨ ∃ i, i ∈ l ∧ tkB A B n x y i = true := by
    intro l
    induction l with
    | nil => intro b; simp
    | cons i l ih =>
      intro b
      rw [List.foldl_cons, ih, Bool.or_eq_true]
      constructor
      · rintro ((h | h) | ⟨i', h1, h2⟩)
        · exact Or.inl h
        · exact Or.inr ⟨i, by simp, h⟩
        · exact Or.inr ⟨i', by simp [h1], h2⟩
      · rintro (h | ⟨i', h1, h2⟩)
        · exact Or.inl (Or.inl h)
        · rcases List.mem_cons.mp h1 with rfl | h1
          · exact Or.inl (Or.inr h2)
          · exact Or.inr ⟨i', h1, h2⟩
  rw [key]
  constructor
  · rintro (h | ⟨i, h1, h2⟩)
    · cases h
    · unfold tkB at h2
      rw [Bool.and_eq_true, decide_eq_true_eq, decide_eq_true_eq] at h2
      unfold kv at h2
      cases hf : (List.range n).find? (fun j => decide (A.getD j 0 = i)) with
      | none => rw [hf] at h2; have := h2.2; simp only [] at this; omega
      | some j =>
        rw [hf] at h2
        obtain ⟨j1, j2, -⟩ := find_some hf
        refine ⟨j, j1, fun e => h2.1 (by rw [← e]; exact (of_decide_eq_true j2).symm), ?_⟩
        have := h2.2
        simp only [] at this
        omega
  · rintro ⟨j, j1, j2, j3⟩
    refine Or.inr ⟨A.getD j 0, List.mem_range.mpr (hA j), ?_⟩
    unfold tkB
    rw [Bool.and_eq_true, decide_eq_true_eq, decide_eq_true_eq]
    exact ⟨j2, by rw [kv_at hp j1, j3]⟩
section RF
variable {h : Nat} {s : Mm} {S : Sys}
theorem r_named {A B : List Nat} (hA : ∀ i, A.getD i 0 < 5) (hB : ∀ i, B.getD i 0 < 5) {a b : List Nat} (ha : Ww a) (hb : Ww b) (t : Bool) {p : Nat} (hab : a.length = b.length → (∀ k, k < a.length → A.getD (p + k) 0 = a.getD k 0) ∧ ∀ k, k < a.length → B.getD (p + k) 0 = (tnd t b).getD k 0) (hK : ∀ x, x < 5 → s.1 321 x = i32 (kv A B p x)) (hp : patN A B p) :
    ∃ (v : Int32) (f : Nat → Int32), fX12_isNamed (M h s) (h + 308) (i64 (r6 a : Int)) (i64 (r6 b : Int)) (i32 (b32i t)) = some (v, M h (mI s 321 f)) ∧ ((v = 1 ∧ (a.length = b.length ∧ patN A B (p + a.length)) ∧ ∀ x, x < 5 → f x = i32 (kv A B (p + a.length) x)) ∨ (v = 0 ∧ ¬ (a.length = b.length ∧ patN A B (p + a.length)))) := by
  have h16 := ha.1
  have h16b := hb.1
  unfold fX12_isNamed
  rw [r_len ha, sb, r_len hb, sb]
  by_cases cl : a.length = b.length
  · obtain ⟨ea, eb⟩ := hab cl
    rw [if_pos (by rw [cl])]
    have key : ∀ (d k : Nat) (f : Nat → Int32), k + d = a.length → (∀ x, x < 5 → f x = i32 (kv A B (p + k) x)) → patN A B (p + k) → ∃ (y : St ⊕ St) (g : Nat → Int32), iterP (fLX12_isNamed_20 (h + 308) (i64 (r6 a : Int)) (i64 (r6 b : Int)) (i32 (b32i t)) (i32 (a.length : Int))) (i32 (k : Int), M h (mI s 321 f)) = some y ∧ ((y = .inr (M h (mI s 321 g)) ∧ patN A B (p + a.length) ∧ ∀ x, x < 5 → g x = i32 (kv A B (p + a.length) x)) ∨ (y = .inl (M h (mI s 321 g)) ∧ ¬ patN A B (p + a.length))) := by
      intro d
      induction d with
      | zero =>
        intro k f hk hf hpk
        have hk : k = a.length := by omega
        subst hk
        refine ⟨.inr (M h (mI s 321 f)), f, ?_, Or.inl ⟨rfl, hpk, hf⟩⟩
        rw [iterP_eq]
        unfold fLX12_isNamed_20
        rw [if_pos (by rw [le32 (by omega) (by omega) (by omega) (by omega)]; omega)]; rfl
      | succ d ih =>
        intro k f hk hf hpk
        have hkl : k < a.length := by omega
        have hx5 := hA (p + k)
        have hy5 := hB (p + k)
        have ex : a.getD k 0 = A.getD (p + k) 0 := (ea k hkl).symm
        have ey : b.getD (if t then b.length - 1 - k else k) 0 = B.getD (p + k) 0 := by rw [eb k hkl, tnd_get (by omega)]
        have hokA := okAt_iff (A := A) (B := B) (n := p + k)
        have htk := taken_iff (x := A.getD (p + k) 0) (y := B.getD (p + k) 0) hpk hA
        generalize hxe : A.getD (p + k) 0 = x at *
        generalize hye : B.getD (p + k) 0 = y at *
        have hnm : ∀ z : Nat, z < 5 → aI (M h (mI s 321 f)) (h + 321) 0 (i32 (z : Int)) = some (i32 (kv A B (p + k) z)) := fun z hz => by
          rw [a_321 (by omega) (by omega), tn0, mI_at, hf z hz]
        have hflag : iterP (fLX12_isNamed_64 (M h (mI s 321 f)) (h + 308) (i64 (r6 a : Int)) (i64 (r6 b : Int)) (i32 (b32i t)) (i32 (a.length : Int)) (i32 (k : Int)) (i32 (x : Int)) (i32 (y : Int))) (0, 0) = some (if (List.range 5).foldl (fun b i => b || tkB A B (p + k) x y i) false = true then 1 else 0) := by
          rw [loop_fold (fun (c : Bool) i => c || tkB A B (p + k) x y i) (fun c i => (if c = true then (1 : Int32) else 0, i32 (i : Int))) (fun c => if c = true then (1 : Int32) else 0) 5 ?_ ?_ (a := false) (show ((0 : Int32), (0 : Int32)) = _ from rfl)]
          · intro c i hi
            have hkb := kv_b (A := A) (n := p + k) (x := i) hB
            unfold fLX12_isNamed_64
            rw [if_neg (by rw [q5]; rw [le32 (by omega) (by omega) (by omega) (by omega)]; omega)]
            have e1 : i32 (i : Int) + 1 = i32 ((i + 1 : Nat) : Int) := by rw [q1, a32]; rfl
            cases c with
            | true =>
              rw [if_neg (show ¬ (if (true : Bool) = true then (1 : Int32) else 0) = 0 from by decide), xlet_eq, e1]
              simp
            | false =>
              rw [if_pos (show (if (false : Bool) = true then (1 : Int32) else 0) = 0 from rfl)]
              unfold tkB
              by_cases ci : i = x
              · rw [if_pos (by rw [ci]), xlet_eq, e1]
                simp [ci]
              · rw [if_neg (by rw [eq32 (by omega) (by omega) (by omega) (by omega)]; omega), g_308_36, sb, hnm i hi, sb]
                by_cases cy : kv A B (p + k) i = (y : Int)
                · rw [if_pos (by rw [cy]), xlet_eq, e1]
                  simp [ci, cy]
                · rw [if_neg (by rw [eq32 (by omega) (by omega) (by omega) (by omega)]; omega), xlet_eq, e1]
                  simp [cy]
          · intro c
            unfold fLX12_isNamed_64
            rw [if_pos (by rw [q5]; rw [le32 (by omega) (by omega) (by omega) (by omega)]; omega)]
        have hgo : ∀ q : Nat, q < b.length → b.getD q 0 = y → fLX12_isNamed_20 (h + 308) (i64 (r6 a : Int)) (i64 (r6 b : Int)) (i32 (b32i t)) (i32 (a.length : Int)) (i32 (k : Int), M h (mI s 321 f)) = fJX12_isNamed_20_53 (M h (mI s 321 f)) (h + 308) (i64 (r6 a : Int)) (i64 (r6 b : Int)) (i32 (b32i t)) (i32 (a.length : Int)) (i32 (k : Int)) (i32 (x : Int)) (i32 (q : Int)) (i64 (r6 b : Int)) → fLX12_isNamed_20 (h + 308) (i64 (r6 a : Int)) (i64 (r6 b : Int)) (i32 (b32i t)) (i32 (a.length : Int)) (i32 (k : Int), M h (mI s 321 f)) = some (if okAt A B (p + k) = true then .inl (i32 ((k + 1 : Nat) : Int), M h (mI s 321 (upd f x (i32 (y : Int))))) else .inr (.inl (M h (mI s 321 f)))) := by
          intro q hq hyq hbody
          rw [hbody]
          unfold fJX12_isNamed_20_53
          rw [r_let hb hq, sb, ltr_of hq, hyq, hflag, sb]
          have hxk := kv_b (A := A) (n := p + k) (x := x) hB
          have hset : ((gR (M h (mI s 321 f)) (h + 308) 11 36).bind fun v138 => (sI (M h (mI s 321 f)) v138 (i32 (x : Int)) (i32 (y : Int))).bind fun σ145 => xlet (i32 (k : Int) + 1) fun v146 => some (Sum.inl (v146, σ145))) = (some (.inl (i32 ((k + 1 : Nat) : Int), M h (mI s 321 (upd f x (i32 (y : Int)))))) : Option ((Int32 × St) ⊕ (St ⊕ St))) := by
            rw [g_308_36, sb, s_321 (by omega) (by omega), sb, tn0, mI_mI, mI_at, xlet_eq, q1, a32]; rfl
          by_cases ct : (List.range 5).foldl (fun b i => b || tkB A B (p + k) x y i) false = true
          · rw [if_pos ct, if_neg (by decide)]
            obtain ⟨j, j1, j2, j3⟩ := htk.mp ct
            rw [if_neg (fun hok => j2 ((hokA.mp hok j j1).mpr j3))]
          · rw [if_neg ct, if_pos rfl, hset, g_308_36, sb, hnm x hx5, sb, sb]
            by_cases c1 : ∀ j, j < p + k → ¬ A.getD j 0 = x
            · rw [kv_no c1, if_pos (show i32 (-1) = -1 from by decide), if_pos]
              refine hokA.mpr (fun j hj => ⟨fun e => absurd e (c1 j hj), fun e => ?_⟩)
              exact Classical.byContradiction (fun hn => ct (htk.mpr ⟨j, hj, hn, e⟩))
            · obtain ⟨j0, hj0⟩ := Classical.not_forall.mp c1
              obtain ⟨hj1, hj2⟩ := Classical.not_imp.mp hj0
              have hj2 : A.getD j0 0 = x := Classical.not_not.mp hj2
              have hkv : kv A B (p + k) x = ((B.getD j0 0 : Nat) : Int) := by rw [← hj2]; exact kv_at hpk hj1
              have hb0 := hB j0
              rw [hkv, if_neg (by rw [qm1]; rw [eq32 (by omega) (by omega) (by omega) (by omega)]; omega), hnm x hx5, sb, hkv]
              by_cases c2 : B.getD j0 0 = y
              · rw [if_pos (by rw [c2]), if_pos]
                refine hokA.mpr (fun j hj => ⟨fun e => ?_, fun e => ?_⟩)
                · rw [← c2]
                  exact (hpk j j0 hj hj1).mp (by rw [e, hj2])
                · exact Classical.byContradiction (fun hn => ct (htk.mpr ⟨j, hj, hn, e⟩))
              · rw [if_neg (by rw [eq32 (by omega) (by omega) (by omega) (by omega)]; omega), if_neg (fun hok => c2 ((hokA.mp hok j0 hj1).mp hj2))]
        have hbd : fLX12_isNamed_20 (h + 308) (i64 (r6 a : Int)) (i64 (r6 b : Int)) (i32 (b32i t)) (i32 (a.length : Int)) (i32 (k : Int), M h (mI s 321 f)) = some (if okAt A B (p + k) = true then .inl (i32 ((k + 1 : Nat) : Int), M h (mI s 321 (upd f x (i32 (y : Int))))) else .inr (.inl (M h (mI s 321 f)))) := by
          refine hgo (if t then b.length - 1 - k else k) (by split <;> omega) ey ?_
          conv => lhs; unfold fLX12_isNamed_20
          rw [if_neg (by rw [le32 (by omega) (by omega) (by omega) (by omega)]; omega), r_let ha hkl, sb, ltr_of hkl, ex]
          cases t with
          | false => rw [if_pos (show i32 (b32i false) = 0 from by decide)]; rfl
          | true =>
            rw [if_neg (show ¬ i32 (b32i true) = 0 from by decide), q1, s32, s32, show ((a.length : Int) - 1 - (k : Int)) = ((b.length - 1 - k : Nat) : Int) by omega]; rfl
        by_cases cok : okAt A B (p + k) = true
        · rw [if_pos cok] at hbd
          have hp1 : patN A B (p + (k + 1)) := patN_succ.mpr ⟨hpk, cok⟩
          obtain ⟨y', g, z1, z2⟩ := ih (k + 1) (upd f x (i32 (y : Int))) (by omega) (fun z hz => by
            by_cases cz : z = x
            · subst cz
              rw [upd_at]
              have := kv_at hp1 (j := p + k) (by omega)
              rw [hxe, hye] at this
              rw [this]
            · rw [upd_ne cz, hf z hz]
              congr 1
              exact (kv_same (n := p + k) (by rw [hxe]; exact fun e => cz e.symm)).symm) hp1
          exact ⟨y', g, by rw [iter_inl hbd]; exact z1, z2⟩
        · rw [if_neg cok] at hbd
          refine ⟨.inl (M h (mI s 321 f)), f, by rw [iterP_eq, hbd]; rfl, Or.inr ⟨rfl, fun hp2 => cok ?_⟩⟩
          exact okAt_iff.mpr (fun i hi => hp2 i (p + k) (by omega) (by omega))
    obtain ⟨y, g, z1, z2⟩ := key a.length 0 (s.1 321) (by omega) hK hp
    rw [mI_id] at z1
    have z1 : iterP _ ((0 : Int32), M h s) = _ := z1
    rw [z1, sb]
    rcases z2 with ⟨rfl, y1, y2⟩ | ⟨rfl, y1⟩
    · exact ⟨1, g, rfl, Or.inl ⟨rfl, ⟨cl, y1⟩, y2⟩⟩
    · exact ⟨0, g, rfl, Or.inr ⟨rfl, fun hc => y1 hc.2⟩⟩
  · rw [if_neg (by rw [eq32 (by omega) (by omega) (by omega) (by omega)]; omega)]
    exact ⟨0, s.1 321, by rw [mI_id], Or.inr ⟨rfl, fun hc => cl hc.1⟩⟩
end RF
