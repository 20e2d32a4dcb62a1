/-! DRAWINGS, the pure side: letters by numbers; a step takes some that lie side by side and makes new ones -/
abbrev Ztp : Type := List Nat × Nat × Nat × Nat × Nat
def zst (T : List Ztp) (k : Nat) : Ztp := T.getD k ([], 0, 0, 0, 0)
def zA (T : List Ztp) (k : Nat) : List Nat := (zst T k).1
def zF (T : List Ztp) (k : Nat) : Nat := (zst T k).2.1
def zM (T : List Ztp) (k : Nat) : Nat := (zst T k).2.2.1
def zR (T : List Ztp) (k : Nat) : Nat := (zst T k).2.2.2.1
def zN (T : List Ztp) (k : Nat) : Nat := (zst T k).2.2.2.2
def zB (T : List Ztp) (k : Nat) : List Nat := List.range' (zF T k) (zM T k)
def zrp (R : List Nat) (p a : Nat) (B : List Nat) : List Nat := R.take p ++ B ++ R.drop (p + a)
def zmk (T : List Ztp) (i : Nat) : Option Nat := (List.range T.length).find? (fun k => decide (zF T k ≤ i ∧ i < zF T k + zM T k))
def zs1 (T : List Ztp) (a : List Nat × Nat) (i : Nat) : List Nat × Nat := match zmk T i with
  | none => a
  | some m => if m ∈ a.1 then a else (a.1 ++ [m], max a.2 (zR T m))
def zsn (T : List Ztp) (l : List Nat) : List Nat × Nat := l.foldl (zs1 T) ([], 0)
abbrev Dst : Type := List Nat × Nat × List Ztp
def ztk (R : List Nat) (p a : Nat) : List Nat := (R.drop p).take a
def znw (d : Dst) (p a b : Nat) : Ztp := (ztk d.1 p a, d.2.1, b, (zsn d.2.2 (ztk d.1 p a)).2 + 1, (zsn d.2.2 (ztk d.1 p a)).1.length)
def zd1 (d : Dst) (p a b : Nat) : Dst := (zrp d.1 p a (List.range' d.2.1 b), d.2.1 + b, d.2.2 ++ [znw d p a b])
def zd (S : Sys) (t : List Nat) (c : List (Nat × Nat)) : Dst := c.foldl (fun d x => zd1 d x.1 (rl S x.2).length (rr S x.2).length) (List.range t.length, t.length, [])
/-- a row of steps, by letters -/
def VT (T : List Ztp) : List Nat → List Nat → List Nat → Prop
  | [], Q, Q' => Q' = Q
  | k :: L, Q, Q' => ∃ u v, Q = u ++ zA T k ++ v ∧ VT T L (u ++ zB T k ++ v) Q'
theorem zst_app1 {T : List Ztp} {x : Ztp} {k : Nat} (hk : k < T.length) : zst (T ++ [x]) k = zst T k := getD_app1 hk
theorem zst_app2 {T : List Ztp} {x : Ztp} : zst (T ++ [x]) T.length = x := getD_app2
theorem zB_of {T T' : List Ztp} {k : Nat} (h : zst T k = zst T' k) : zB T k = zB T' k := by unfold zB zF zM; rw [h]
theorem zA_of {T T' : List Ztp} {k : Nat} (h : zst T k = zst T' k) : zA T k = zA T' k := by unfold zA; rw [h]
theorem VT_congr {T T' : List Ztp} {Q' : List Nat} : ∀ (L Q : List Nat), (∀ k ∈ L, zst T k = zst T' k) → VT T L Q Q' → VT T' L Q Q' := by
  intro L
  induction L with
  | nil => intro Q _ hv; exact hv
  | cons k L ih =>
    intro Q hk hv
    obtain ⟨u, v, e1, e2⟩ := hv
    have hz := hk k (by simp)
    refine ⟨u, v, by rw [← zA_of hz]; exact e1, ih _ (fun j hj => hk j (by simp [hj])) ?_⟩
    rw [← zB_of hz]; exact e2
theorem VT_snoc {T : List Ztp} {Q1 u v : List Nat} {k : Nat} (hQ : Q1 = u ++ zA T k ++ v) : ∀ (L Q : List Nat), VT T L Q Q1 → VT T (L ++ [k]) Q (u ++ zB T k ++ v) := by
  intro L
  induction L with
  | nil =>
    intro Q hv
    have hv : Q1 = Q := hv
    exact ⟨u, v, hv ▸ hQ, rfl⟩
  | cons j L ih =>
    intro Q hv
    obtain ⟨u1, v1, e1, e2⟩ := hv
    exact ⟨u1, v1, e1, ih _ e2⟩
theorem VT_sub {T : List Ztp} {Q' : List Nat} {k : Nat} {L2 : List Nat} : ∀ (L1 Q : List Nat), VT T (L1 ++ k :: L2) Q Q' → ∀ i, i ∈ zA T k → i ∈ Q ∨ i ∈ L1.flatMap (zB T) := by
  intro L1
  induction L1 with
  | nil =>
    intro Q hv i hi
    obtain ⟨u, v, e1, -⟩ := hv
    rw [e1]
    exact Or.inl (List.mem_append_left _ (List.mem_append_right _ hi))
  | cons x L1 ih =>
    intro Q hv i hi
    obtain ⟨u, v, e1, e2⟩ := hv
    rw [List.flatMap_cons, e1]
    rcases ih _ e2 i hi with hm | hm
    · rcases List.mem_append.mp hm with hm | hm
      · rcases List.mem_append.mp hm with hm | hm
        · exact Or.inl (List.mem_append_left _ (List.mem_append_left _ hm))
        · exact Or.inr (List.mem_append_left _ hm)
      · exact Or.inl (List.mem_append_right _ hm)
    · exact Or.inr (List.mem_append_right _ hm)
theorem seg_1 {u u' A v v' : List Nat} (hA : A ≠ []) (hN : (u ++ (A ++ v)).Nodup) (h1 : ∃ m, u' = u ++ m ∧ A ++ v = m ++ (A ++ v')) : u' = u ∧ v = v' := by
  obtain ⟨m, e1, e2⟩ := h1
  cases m with
  | nil =>
    rw [List.append_nil] at e1
    rw [List.nil_append] at e2
    exact ⟨e1, List.append_cancel_left e2⟩
  | cons y m =>
    exfalso
    cases A with
    | nil => exact hA rfl
    | cons x A =>
      rw [List.cons_append, List.cons_append] at e2
      obtain ⟨ey, er⟩ := List.cons.inj e2
      have hm : x ∈ A ++ v := by
        rw [er]
        exact List.mem_append_right _ (by simp)
      have := (List.nodup_append.mp hN).2.1
      rw [List.cons_append, List.nodup_cons] at this
      exact this.1 hm
theorem seg_u {u u' A v v' : List Nat} (hA : A ≠ []) (hN : (u ++ A ++ v).Nodup) (h : u ++ A ++ v = u' ++ A ++ v') : u' = u ∧ v' = v := by
  rw [List.append_assoc] at hN
  have h2 := h
  rw [List.append_assoc, List.append_assoc] at h2
  rcases List.append_eq_append_iff.mp h2 with ⟨m, a1, a2⟩ | ⟨m, a1, a2⟩
  · obtain ⟨b1, b2⟩ := seg_1 (u := u) (u' := u') (v := v) (v' := v') hA hN ⟨m, a1, a2⟩
    exact ⟨b1, b2.symm⟩
  · rw [h2] at hN
    obtain ⟨b1, b2⟩ := seg_1 (u := u') (u' := u) (v := v') (v' := v) hA hN ⟨m, a1, a2⟩
    exact ⟨b1.symm, b2⟩
theorem seg_2 {A A' v v' m : List Nat} (hA' : A' ≠ []) (hd : ∀ i, i ∈ A → i ∈ A' → False) (h : A ++ v = m ++ (A' ++ v')) : ∃ q, m = A ++ q ∧ v = q ++ A' ++ v' := by
  rcases List.append_eq_append_iff.mp h with ⟨q, a1, a2⟩ | ⟨q, a1, a2⟩
  · exact ⟨q, a1, by rw [a2, List.append_assoc]⟩
  · cases q with
    | nil =>
      rw [List.append_nil] at a1
      exact ⟨[], by rw [a1, List.append_nil], by rw [List.nil_append] at a2 ⊢; exact a2.symm⟩
    | cons y q =>
      exfalso
      cases A' with
      | nil => exact hA' rfl
      | cons x A' =>
        rw [List.cons_append, List.cons_append] at a2
        obtain ⟨ey, -⟩ := List.cons.inj a2
        refine hd x ?_ (by simp)
        rw [a1, ey]
        exact List.mem_append_right _ (by simp)
theorem seg_3 {u u' A A' v v' : List Nat} (hA : A ≠ []) (hA' : A' ≠ []) (hd : ∀ i, i ∈ A → i ∈ A' → False) (h : u ++ A ++ v = u' ++ A' ++ v') : (∃ m, u' = u ++ A ++ m ∧ v = m ++ A' ++ v') ∨ (∃ m, u = u' ++ A' ++ m ∧ v' = m ++ A ++ v) := by
  rw [List.append_assoc, List.append_assoc] at h
  rcases List.append_eq_append_iff.mp h with ⟨m, a1, a2⟩ | ⟨m, a1, a2⟩
  · obtain ⟨q, b1, b2⟩ := seg_2 hA' hd a2
    exact Or.inl ⟨q, by rw [a1, b1, List.append_assoc], b2⟩
  · obtain ⟨q, b1, b2⟩ := seg_2 hA (fun i x y => hd i y x) a2
    exact Or.inr ⟨q, by rw [a1, b1, List.append_assoc], b2⟩
theorem nd_mid {u A v W : List Nat} (h : (u ++ A ++ v ++ W).Nodup) {i : Nat} (hi : i ∈ A) : i ∉ u ∧ i ∉ v ∧ i ∉ W := by
  obtain ⟨a1, a2, a3⟩ := List.nodup_append.mp h
  obtain ⟨b1, b2, b3⟩ := List.nodup_append.mp a1
  obtain ⟨c1, c2, c3⟩ := List.nodup_append.mp b1
  exact ⟨fun hu => c3 i hu i hi rfl, fun hv => b3 i (List.mem_append_right _ hi) i hv rfl, fun hw => a3 i (List.mem_append_left _ (List.mem_append_right _ hi)) i hw rfl⟩
theorem nd_rp {u A v B W : List Nat} (h : (u ++ A ++ v ++ (B ++ W)).Nodup) : (u ++ B ++ v ++ W).Nodup := by
  have hs : (u ++ v ++ (B ++ W)).Nodup := by
    refine List.Nodup.sublist ?_ h
    refine List.Sublist.append ?_ (List.Sublist.refl _)
    exact List.Sublist.append (List.sublist_append_left _ _) (List.Sublist.refl _)
  have hp : (u ++ v ++ (B ++ W)).Perm (u ++ B ++ v ++ W) := by
    have e1 : u ++ v ++ (B ++ W) = u ++ (v ++ (B ++ W)) := by rw [List.append_assoc]
    have e2 : u ++ B ++ v ++ W = u ++ (B ++ (v ++ W)) := by rw [List.append_assoc, List.append_assoc]
    rw [e1, e2]
    exact List.Perm.append_left u (List.perm_append_comm_assoc v B W)
  exact hp.nodup hs
/-- a step that lies side by side now can be made first -/
theorem VT_mv {T : List Ztp} (hne : ∀ k, k < T.length → zA T k ≠ []) {Q' : List Nat} {k : Nat} {L2 : List Nat} : ∀ (L1 Q u v : List Nat), (∀ j ∈ L1 ++ k :: L2, j < T.length) → (Q ++ (L1 ++ k :: L2).flatMap (zB T)).Nodup → VT T (L1 ++ k :: L2) Q Q' → Q = u ++ zA T k ++ v → VT T (L1 ++ L2) (u ++ zB T k ++ v) Q' := by
  intro L1
  induction L1 with
  | nil =>
    intro Q u v hj hN hv hQ
    obtain ⟨u', v', e1, e2⟩ := hv
    have hk := hne k (hj k (by simp))
    have hNQ := (List.nodup_append.mp hN).1
    rw [hQ] at hNQ
    obtain ⟨b1, b2⟩ := seg_u hk hNQ (hQ.symm.trans e1)
    subst b1 b2
    exact e2
  | cons x L1 ih =>
    intro Q u v hj hN hv hQ
    obtain ⟨u', v', e1, e2⟩ := hv
    have hx := hne x (hj x (by simp))
    have hk := hne k (hj k (by simp))
    have hfm : (x :: L1 ++ k :: L2).flatMap (zB T) = zB T x ++ (L1 ++ k :: L2).flatMap (zB T) := rfl
    rw [hfm, e1] at hN
    have hd : ∀ i, i ∈ zA T k → i ∈ zA T x → False := by
      intro i hik hix
      obtain ⟨n1, n2, n3⟩ := nd_mid hN hix
      rcases VT_sub L1 _ e2 i hik with hm | hm
      · rcases List.mem_append.mp hm with hm | hm
        · rcases List.mem_append.mp hm with hm | hm
          · exact n1 hm
          · exact n3 (List.mem_append_left _ hm)
        · exact n2 hm
      · exact n3 (List.mem_append_right _ (by rw [List.flatMap_append]; exact List.mem_append_left _ hm))
    have hN2 := nd_rp hN
    rcases seg_3 hk hx hd (hQ.symm.trans e1) with ⟨m, a1, a2⟩ | ⟨m, a1, a2⟩
    · have := ih (u' ++ zB T x ++ v') u (m ++ zB T x ++ v') (fun j h9 => hj j (List.mem_cons_of_mem _ h9)) hN2 e2 (by rw [a1]; simp only [List.append_assoc])
      refine ⟨u ++ zB T k ++ m, v', by rw [a2]; simp only [List.append_assoc], ?_⟩
      have e : u ++ zB T k ++ m ++ zB T x ++ v' = u ++ zB T k ++ (m ++ zB T x ++ v') := by simp only [List.append_assoc]
      rw [e]; exact this
    · have := ih (u' ++ zB T x ++ v') (u' ++ zB T x ++ m) v (fun j h9 => hj j (List.mem_cons_of_mem _ h9)) hN2 e2 (by rw [a2]; simp only [List.append_assoc])
      refine ⟨u', m ++ zB T k ++ v, by rw [a1]; simp only [List.append_assoc], ?_⟩
      have e : u' ++ zB T x ++ (m ++ zB T k ++ v) = u' ++ zB T x ++ m ++ zB T k ++ v := by simp only [List.append_assoc]
      rw [e]; exact this
/-- what holds of a drawing: letters below 'ever', each one once -/
def ZI (n0 : Nat) (d : Dst) : Prop := VT d.2.2 (List.range d.2.2.length) (List.range n0) d.1 ∧ List.range n0 ++ (List.range d.2.2.length).flatMap (zB d.2.2) = List.range d.2.1 ∧ d.1.Nodup ∧ (∀ i ∈ d.1, i < d.2.1) ∧ (∀ k, k < d.2.2.length → zA d.2.2 k ≠ [] ∧ ∀ i ∈ zA d.2.2 k, i < d.2.1 ∧ i ∉ d.1) ∧ (∀ k k' i, k < d.2.2.length → k' < d.2.2.length → i ∈ zA d.2.2 k → i ∈ zA d.2.2 k' → k = k') ∧ (∀ k, k < d.2.2.length → zF d.2.2 k + zM d.2.2 k ≤ d.2.1 ∧ (zA d.2.2 k).length ≤ 16 ∧ zM d.2.2 k ≤ 16 ∧ zR d.2.2 k ≤ k + 1 ∧ zN d.2.2 k ≤ 16) ∧ d.2.1 ≤ n0 + 16 * d.2.2.length
theorem ztk_len {R : List Nat} {p a : Nat} (h : p + a ≤ R.length) : (ztk R p a).length = a := by
  unfold ztk; rw [List.length_take, List.length_drop]; omega
theorem ztk_split {R : List Nat} {p a : Nat} : R = R.take p ++ ztk R p a ++ R.drop (p + a) := by
  unfold ztk
  rw [List.append_assoc, ← List.drop_drop, List.take_append_drop, List.take_append_drop]
theorem ztk_sub {R : List Nat} {p a i : Nat} (h : i ∈ ztk R p a) : i ∈ R := List.mem_of_mem_drop (List.mem_of_mem_take h)
theorem fm_congr {l : List Nat} {f g : Nat → List Nat} (h : ∀ k ∈ l, f k = g k) : l.flatMap f = l.flatMap g := by
  induction l with
  | nil => rfl
  | cons x l ih => rw [List.flatMap_cons, List.flatMap_cons, h x (by simp), ih (fun k hk => h k (by simp [hk]))]
theorem zmk_lt {T : List Ztp} {i m : Nat} (h : zmk T i = some m) : m < T.length := (find_some h).1
theorem zsn_b {T : List Ztp} {n : Nat} (hR : ∀ k, k < T.length → zR T k ≤ n) : ∀ (l : List Nat) (a : List Nat × Nat), a.2 ≤ n → (l.foldl (zs1 T) a).2 ≤ n ∧ (l.foldl (zs1 T) a).1.length ≤ a.1.length + l.length := by
  intro l
  induction l with
  | nil => intro a ha; exact ⟨ha, Nat.le_refl _⟩
  | cons x l ih =>
    intro a ha
    rw [List.foldl_cons, List.length_cons]
    have key : (zs1 T a x).2 ≤ n ∧ (zs1 T a x).1.length ≤ a.1.length + 1 := by
      unfold zs1
      cases e : zmk T x with
      | none => exact ⟨ha, by simp only []; omega⟩
      | some m =>
        have := hR m (zmk_lt e)
        simp only []
        split
        · exact ⟨ha, by omega⟩
        · refine ⟨by simp only []; omega, ?_⟩
          rw [List.length_append]; show _ + 1 ≤ _; omega
    have := ih (zs1 T a x) key.1
    exact ⟨this.1, by omega⟩
theorem ZI.init (n0 : Nat) : ZI n0 (List.range n0, n0, []) := by
  refine ⟨rfl, by simp, List.nodup_range, fun i hi => List.mem_range.mp hi, fun k hk => absurd hk (by simp), fun k k' i hk => absurd hk (by simp), fun k hk => absurd hk (by simp), by simp⟩
theorem ZI.step {n0 : Nat} {d : Dst} (hI : ZI n0 d) {p a b : Nat} (ha : 1 ≤ a) (ha2 : a ≤ 16) (hb : b ≤ 16) (hp : p + a ≤ d.1.length) : ZI n0 (zd1 d p a b) := by
  obtain ⟨R, e, T⟩ := d
  obtain ⟨i1, i2, i3, i4, i5, i6, i7, i8⟩ := hI
  simp only [] at i1 i2 i3 i4 i5 i6 i7 i8 hp
  have hlen : (ztk R p a).length = a := ztk_len hp
  have hold : ∀ k, k < T.length → zst (T ++ [znw (R, e, T) p a b]) k = zst T k := fun k hk => zst_app1 hk
  have hnew : zst (T ++ [znw (R, e, T) p a b]) T.length = znw (R, e, T) p a b := zst_app2
  have hAo : ∀ k, k < T.length → zA (T ++ [znw (R, e, T) p a b]) k = zA T k := fun k hk => zA_of (hold k hk)
  have hAn : zA (T ++ [znw (R, e, T) p a b]) T.length = ztk R p a := by unfold zA; rw [hnew]; rfl
  have hBo : ∀ k, k < T.length → zB (T ++ [znw (R, e, T) p a b]) k = zB T k := fun k hk => zB_of (hold k hk)
  have hBn : zB (T ++ [znw (R, e, T) p a b]) T.length = List.range' e b := by unfold zB zF zM; rw [hnew]; rfl
  have hTl : (T ++ [znw (R, e, T) p a b]).length = T.length + 1 := by rw [List.length_append]; rfl
  have hRs := ztk_split (R := R) (p := p) (a := a)
  have hNd : (R ++ List.range' e b).Nodup := List.nodup_append.mpr ⟨i3, List.nodup_range', fun x hx y hy => by
    have h1 := i4 x hx
    have h2 := List.mem_range'_1.mp hy
    omega⟩
  have hNd2 : (R.take p ++ ztk R p a ++ R.drop (p + a) ++ (List.range' e b ++ [])).Nodup := by rw [← hRs, List.append_nil]; exact hNd
  have hsn := zsn_b (T := T) (n := T.length) (fun k hk => by have := (i7 k hk).2.2.2.1; omega) (ztk R p a) ([], 0) (by simp)
  show ZI n0 (zrp R p a (List.range' e b), e + b, T ++ [znw (R, e, T) p a b])
  refine ⟨?_, ?_, ?_, ?_, ?_, ?_, ?_, ?_⟩
  · show VT _ (List.range (T ++ [znw (R, e, T) p a b]).length) _ _
    rw [hTl, List.range_succ]
    have := VT_snoc (T := T ++ [znw (R, e, T) p a b]) (Q1 := R) (u := R.take p) (v := R.drop (p + a)) (k := T.length) (by rw [hAn]; exact hRs) (List.range T.length) (List.range n0) (VT_congr _ _ (fun k hk => (hold k (List.mem_range.mp hk)).symm) i1)
    rw [hBn] at this
    exact this
  · show List.range n0 ++ (List.range (T ++ [znw (R, e, T) p a b]).length).flatMap (zB (T ++ [znw (R, e, T) p a b])) = List.range (e + b)
    rw [hTl, List.range_succ, List.flatMap_append, fm_congr (fun k hk => hBo k (List.mem_range.mp hk)), ← List.append_assoc, i2, List.flatMap_cons, List.flatMap_nil, List.append_nil, hBn, List.range_eq_range', List.range_eq_range']
    have := List.range'_append_1 (s := 0) (m := e) (n := b)
    rw [Nat.zero_add] at this
    exact this
  · show (zrp R p a (List.range' e b)).Nodup
    have := nd_rp hNd2
    rw [List.append_nil] at this
    exact this
  · intro i hi
    show i < e + b
    have hi : i ∈ zrp R p a (List.range' e b) := hi
    rcases List.mem_append.mp hi with hi | hi
    · rcases List.mem_append.mp hi with hi | hi
      · have := i4 i (List.mem_of_mem_take hi); omega
      · have := List.mem_range'_1.mp hi; omega
    · have := i4 i (List.mem_of_mem_drop hi); omega
  · intro k hk
    have hk : k < (T ++ [znw (R, e, T) p a b]).length := hk
    show zA (T ++ [znw (R, e, T) p a b]) k ≠ [] ∧ ∀ i ∈ zA (T ++ [znw (R, e, T) p a b]) k, i < e + b ∧ i ∉ zrp R p a (List.range' e b)
    rw [hTl] at hk
    by_cases c : k = T.length
    · subst c
      rw [hAn]
      refine ⟨fun hz => by rw [hz] at hlen; simp at hlen; omega, fun i hi => ?_⟩
      have h1 := i4 i (ztk_sub hi)
      refine ⟨by omega, fun hm => ?_⟩
      obtain ⟨n1, n2, n3⟩ := nd_mid hNd2 hi
      rcases List.mem_append.mp hm with hm | hm
      · rcases List.mem_append.mp hm with hm | hm
        · exact n1 hm
        · exact n3 (List.mem_append_left _ hm)
      · exact n2 hm
    · rw [hAo k (by omega)]
      obtain ⟨j1, j2⟩ := i5 k (by omega)
      refine ⟨j1, fun i hi => ⟨by have := (j2 i hi).1; omega, fun hm => ?_⟩⟩
      obtain ⟨q1, q2⟩ := j2 i hi
      rcases List.mem_append.mp hm with hm | hm
      · rcases List.mem_append.mp hm with hm | hm
        · exact q2 (List.mem_of_mem_take hm)
        · have := List.mem_range'_1.mp hm; omega
      · exact q2 (List.mem_of_mem_drop hm)
  · intro k k' i hk hk' hi hi'
    have hk : k < (T ++ [znw (R, e, T) p a b]).length := hk
    have hk' : k' < (T ++ [znw (R, e, T) p a b]).length := hk'
    have hi : i ∈ zA (T ++ [znw (R, e, T) p a b]) k := hi
    have hi' : i ∈ zA (T ++ [znw (R, e, T) p a b]) k' := hi'
    rw [hTl] at hk hk'
    by_cases c : k = T.length
    · by_cases c' : k' = T.length
      · omega
      · rw [c, hAn] at hi
        rw [hAo k' (by omega)] at hi'
        exact absurd (ztk_sub hi) ((i5 k' (by omega)).2 i hi').2
    · by_cases c' : k' = T.length
      · rw [c', hAn] at hi'
        rw [hAo k (by omega)] at hi
        exact absurd (ztk_sub hi') ((i5 k (by omega)).2 i hi).2
      · rw [hAo k (by omega)] at hi
        rw [hAo k' (by omega)] at hi'
        exact i6 k k' i (by omega) (by omega) hi hi'
  · intro k hk
    have hk : k < (T ++ [znw (R, e, T) p a b]).length := hk
    show zF (T ++ [znw (R, e, T) p a b]) k + zM (T ++ [znw (R, e, T) p a b]) k ≤ e + b ∧ (zA (T ++ [znw (R, e, T) p a b]) k).length ≤ 16 ∧ zM (T ++ [znw (R, e, T) p a b]) k ≤ 16 ∧ zR (T ++ [znw (R, e, T) p a b]) k ≤ k + 1 ∧ zN (T ++ [znw (R, e, T) p a b]) k ≤ 16
    rw [hTl] at hk
    by_cases c : k = T.length
    · subst c
      unfold zF zM zA zR zN
      rw [hnew]
      unfold znw
      have h1 := hsn.1
      have h2 := hsn.2
      rw [hlen] at h2
      have h3 : ([] : List Nat).length = 0 := rfl
      refine ⟨Nat.le_refl _, by simp only []; omega, hb, ?_, ?_⟩
      · show (zsn T (ztk R p a)).2 + 1 ≤ T.length + 1
        unfold zsn; omega
      · show (zsn T (ztk R p a)).1.length ≤ 16
        unfold zsn
        have h2' : (List.foldl (zs1 T) ([], 0) (ztk R p a)).fst.length ≤ 0 + a := h2
        omega
    · have := i7 k (by omega)
      unfold zF zM zA zR zN at *
      rw [hold k (by omega)]
      refine ⟨by omega, this.2⟩
  · show e + b ≤ n0 + 16 * (T ++ [znw (R, e, T) p a b]).length
    rw [hTl]; omega
/-! the canon: the leftmost step that lies side by side -/
abbrev zli (T : List Ztp) (R : List Nat) (p k : Nat) : Prop := ztk R p (zA T k).length = zA T k
def zlk (T : List Ztp) (R : List Nat) (p : Nat) : Option Nat := (List.range T.length).find? (fun k => decide (zli T R p k))
def zcf (T : List Ztp) (R : List Nat) : Option Nat := (List.range R.length).find? (fun p => (zlk T R p).isSome)
def zc1 (T : List Ztp) (x : List Nat × List (Nat × Nat)) : List Nat × List (Nat × Nat) := match zcf T x.1 with
  | none => x
  | some p => match zlk T x.1 p with
    | none => x
    | some k => (zrp x.1 p (zA T k).length (zB T k), x.2 ++ [(p, k)])
def zcs (T : List Ztp) (R : List Nat) : Nat → List Nat × List (Nat × Nat)
  | 0 => (R, [])
  | n + 1 => zc1 T (zcs T R n)
/-- what holds while the canon is laid: L the steps that are still to be made -/
def CI (T : List Ztp) (e : Nat) (L : List Nat) (x : List Nat × List (Nat × Nat)) : Prop := (∃ Q', VT T L x.1 Q') ∧ (x.1 ++ L.flatMap (zB T)).Nodup ∧ (∀ i ∈ x.1 ++ L.flatMap (zB T), i < e) ∧ L.Nodup ∧ (∀ k ∈ L, k < T.length) ∧ (∀ k, k < T.length → k ∉ L → (∃ y ∈ x.2, y.2 = k) ∧ ∀ i ∈ zA T k, i ∉ x.1 ++ L.flatMap (zB T)) ∧ (∀ y ∈ x.2, y.2 ∉ L ∧ y.2 < T.length) ∧ x.2.length + L.length = T.length
theorem zli_le {T : List Ztp} {R : List Nat} {p k : Nat} (hne : zA T k ≠ []) (h : zli T R p k) : p + (zA T k).length ≤ R.length ∧ p < R.length := by
  have h2 := congrArg List.length h
  have h3 : 0 < (zA T k).length := List.length_pos_iff.mpr hne
  unfold ztk at h2
  rw [List.length_take, List.length_drop] at h2
  omega
theorem zli_split {T : List Ztp} {R : List Nat} {p k : Nat} (h : zli T R p k) : R = R.take p ++ zA T k ++ R.drop (p + (zA T k).length) := by
  have := ztk_split (R := R) (p := p) (a := (zA T k).length)
  rw [show ztk R p (zA T k).length = zA T k from h] at this
  exact this
theorem CI.step {T : List Ztp} {e : Nat} {L : List Nat} {x : List Nat × List (Nat × Nat)} (hne : ∀ k, k < T.length → zA T k ≠ []) (hC : CI T e L x) (hL : L ≠ []) : ∃ p k L', zcf T x.1 = some p ∧ zlk T x.1 p = some k ∧ p < x.1.length ∧ k < T.length ∧ zli T x.1 p k ∧ p + (zA T k).length ≤ x.1.length ∧ (∀ y ∈ x.2, y.2 ≠ k) ∧ zc1 T x = (zrp x.1 p (zA T k).length (zB T k), x.2 ++ [(p, k)]) ∧ CI T e L' (zc1 T x) ∧ L'.length + 1 = L.length := by
  obtain ⟨⟨Q', c1⟩, c2, c3, c4, c5, c6, c7, c8⟩ := hC
  have hex : ∃ p k, p < x.1.length ∧ k < T.length ∧ zli T x.1 p k := by
    cases L with
    | nil => exact absurd rfl hL
    | cons k0 L0 =>
      obtain ⟨u, v, e1, -⟩ := c1
      have hk0 := c5 k0 (by simp)
      have hl : zli T x.1 u.length k0 := by
        show ztk x.1 u.length _ = _
        unfold ztk
        rw [e1, List.append_assoc, List.drop_left, List.take_left]
      exact ⟨u.length, k0, (zli_le (hne k0 hk0) hl).2, hk0, hl⟩
  obtain ⟨p0, k0, hp0, hk0, hl0⟩ := hex
  have hz0 : ∀ p, (zlk T x.1 p).isSome = true ↔ ∃ k, k < T.length ∧ zli T x.1 p k := by
    intro p
    unfold zlk
    rw [List.find?_isSome]
    constructor
    · rintro ⟨k, hk, he⟩
      exact ⟨k, List.mem_range.mp hk, of_decide_eq_true he⟩
    · rintro ⟨k, hk, he⟩
      exact ⟨k, List.mem_range.mpr hk, decide_eq_true he⟩
  have hcf : ∃ p, zcf T x.1 = some p := by
    cases ec : zcf T x.1 with
    | some p => exact ⟨p, rfl⟩
    | none =>
      have := find_none ec p0 hp0
      rw [(hz0 p0).mpr ⟨k0, hk0, hl0⟩] at this
      cases this
  obtain ⟨p, ep⟩ := hcf
  obtain ⟨hp, hps, -⟩ := find_some ep
  cases ek : zlk T x.1 p with
  | none => rw [ek] at hps; cases hps
  | some k =>
    obtain ⟨hk, hks, -⟩ := find_some ek
    have hl : zli T x.1 p k := of_decide_eq_true hks
    have hA := hne k hk
    have hle := (zli_le hA hl).1
    have hsp := zli_split hl
    have hkL : k ∈ L := by
      refine Classical.byContradiction (fun hn => ?_)
      have hno := (c6 k hk hn).2
      obtain ⟨i, hi⟩ := List.exists_mem_of_ne_nil _ hA
      refine hno i hi (List.mem_append_left _ ?_)
      rw [hsp]
      exact List.mem_append_left _ (List.mem_append_right _ hi)
    obtain ⟨L1, L2, eL⟩ := List.append_of_mem hkL
    have ez : zc1 T x = (zrp x.1 p (zA T k).length (zB T k), x.2 ++ [(p, k)]) := by
      unfold zc1
      rw [ep]
      simp only []
      rw [ek]
    have hfm : L.flatMap (zB T) = L1.flatMap (zB T) ++ (zB T k ++ L2.flatMap (zB T)) := by
      rw [eL, List.flatMap_append, List.flatMap_cons]
    have hpm : (x.1.take p ++ zA T k ++ x.1.drop (p + (zA T k).length) ++ (zB T k ++ (L1 ++ L2).flatMap (zB T))).Nodup := by
      rw [← hsp]
      refine List.Perm.nodup ?_ c2
      rw [hfm, List.flatMap_append]
      exact List.Perm.append_left _ (List.perm_append_comm_assoc _ _ _)
    have hN2 := nd_rp hpm
    have hsub : ∀ i, i ∈ zrp x.1 p (zA T k).length (zB T k) ++ (L1 ++ L2).flatMap (zB T) → i ∈ x.1 ++ L.flatMap (zB T) := by
      intro i hi
      rw [hfm]
      rw [List.flatMap_append] at hi
      rcases List.mem_append.mp hi with hi | hi
      · rcases List.mem_append.mp hi with hi | hi
        · rcases List.mem_append.mp hi with hi | hi
          · exact List.mem_append_left _ (List.mem_of_mem_take hi)
          · exact List.mem_append_right _ (List.mem_append_right _ (List.mem_append_left _ hi))
        · exact List.mem_append_left _ (List.mem_of_mem_drop hi)
      · rcases List.mem_append.mp hi with hi | hi
        · exact List.mem_append_right _ (List.mem_append_left _ hi)
        · exact List.mem_append_right _ (List.mem_append_right _ (List.mem_append_right _ hi))
    have hLN : k ∉ L1 ++ L2 ∧ (L1 ++ L2).Nodup := by
      have h1 : (k :: (L1 ++ L2)).Nodup := by
        refine List.Perm.nodup ?_ c4
        rw [eL]
        exact List.perm_middle
      exact List.nodup_cons.mp h1
    have hin : ∀ j, j ∈ L1 ++ L2 → j ∈ L := by
      intro j hj
      rw [eL]
      rcases List.mem_append.mp hj with hj | hj
      · exact List.mem_append_left _ hj
      · exact List.mem_append_right _ (List.mem_cons_of_mem _ hj)
    have hor : ∀ j, j ∈ L → j = k ∨ j ∈ L1 ++ L2 := by
      intro j hj
      rw [eL] at hj
      rcases List.mem_append.mp hj with hj | hj
      · exact Or.inr (List.mem_append_left _ hj)
      · rcases List.mem_cons.mp hj with hj | hj
        · exact Or.inl hj
        · exact Or.inr (List.mem_append_right _ hj)
    have hLl : (L1 ++ L2).length + 1 = L.length := by
      rw [eL, List.length_append, List.length_append, List.length_cons]; omega
    refine ⟨p, k, L1 ++ L2, ep, ek, hp, hk, hl, hle, fun y hy h9 => (c7 y hy).1 (h9 ▸ hkL), ez, ?_, hLl⟩
    rw [ez]
    refine ⟨⟨Q', ?_⟩, hN2, fun i hi => c3 i (hsub i hi), hLN.2, fun j hj => c5 j (hin j hj), fun j hj hjn => ?_, fun y hy => ?_, ?_⟩
    · rw [eL] at c1 c2 c5
      exact VT_mv hne L1 x.1 (x.1.take p) (x.1.drop (p + (zA T k).length)) c5 c2 c1 hsp
    · by_cases c : j = k
      · subst c
        refine ⟨⟨(p, j), List.mem_append_right _ (by simp), rfl⟩, fun i hi hm => ?_⟩
        obtain ⟨n1, n2, n3⟩ := nd_mid hpm hi
        rcases List.mem_append.mp hm with hm | hm
        · rcases List.mem_append.mp hm with hm | hm
          · rcases List.mem_append.mp hm with hm | hm
            · exact n1 hm
            · exact n3 (List.mem_append_left _ hm)
          · exact n2 hm
        · exact n3 (List.mem_append_right _ hm)
      · have hjL : j ∉ L := fun hm => by
          rcases hor j hm with hm | hm
          · exact c hm
          · exact hjn hm
        obtain ⟨⟨y, y1, y2⟩, h2⟩ := c6 j hj hjL
        exact ⟨⟨y, List.mem_append_left _ y1, y2⟩, fun i hi hm => h2 i hi (hsub i hm)⟩
    · rcases List.mem_append.mp hy with hy | hy
      · exact ⟨fun hm => (c7 y hy).1 (hin _ hm), (c7 y hy).2⟩
      · rw [List.mem_singleton.mp hy]
        exact ⟨hLN.1, hk⟩
    · rw [List.length_append]
      show x.2.length + 1 + (L1 ++ L2).length = T.length
      omega
theorem CI.all {T : List Ztp} {e : Nat} {R : List Nat} (hne : ∀ k, k < T.length → zA T k ≠ []) (h0 : CI T e (List.range T.length) (R, [])) : ∀ n, n ≤ T.length → ∃ L, CI T e L (zcs T R n) ∧ L.length + n = T.length := by
  intro n
  induction n with
  | zero => intro _; exact ⟨_, h0, by simp⟩
  | succ n ih =>
    intro hn
    obtain ⟨L, h1, h2⟩ := ih (by omega)
    obtain ⟨p, k, L', -, -, -, -, -, -, -, -, h3, h4⟩ := CI.step hne h1 (fun hz => by rw [hz] at h2; simp at h2; omega)
    exact ⟨L', h3, by omega⟩
theorem CI.init {n0 : Nat} {d : Dst} (hI : ZI n0 d) : CI d.2.2 d.2.1 (List.range d.2.2.length) (List.range n0, []) := by
  obtain ⟨i1, i2, -⟩ := hI
  refine ⟨⟨_, i1⟩, by rw [i2]; exact List.nodup_range, fun i hi => by rw [i2] at hi; exact List.mem_range.mp hi, List.nodup_range, fun k hk => List.mem_range.mp hk, fun k hk hn => absurd (List.mem_range.mpr hk) hn, fun y hy => absurd hy List.not_mem_nil, by rw [List.length_range]; exact Nat.zero_add _⟩
theorem nd_len {R : List Nat} {e : Nat} (hN : R.Nodup) (hb : ∀ i ∈ R, i < e) : R.length ≤ e := by
  have := List.Nodup.length_le_of_subset (l₂ := List.range e) hN (fun i hi => List.mem_range.mpr (hb i hi))
  rw [List.length_range] at this
  exact this
theorem CI.len {T : List Ztp} {e : Nat} {L : List Nat} {x : List Nat × List (Nat × Nat)} (hC : CI T e L x) : x.1.length ≤ e := nd_len (List.nodup_append.mp hC.2.1).1 (fun i hi => hC.2.2.1 i (List.mem_append_left _ hi))
theorem zli_hd {T : List Ztp} {R : List Nat} {p k : Nat} (hne : zA T k ≠ []) (h : zli T R p k) : R.getD p 0 ∈ zA T k ∧ (zA T k).getD 0 0 = R.getD p 0 := by
  obtain ⟨h1, h2⟩ := zli_le hne h
  have h3 : 0 < (zA T k).length := List.length_pos_iff.mpr hne
  have h4 : (zA T k).getD 0 0 = R.getD p 0 := by
    rw [← show ztk R p (zA T k).length = zA T k from h]
    unfold ztk
    rw [List.getD_eq_getElem?_getD, List.getD_eq_getElem?_getD, List.getElem?_take, if_pos h3, List.getElem?_drop, Nat.add_zero]
  exact ⟨h4 ▸ getD_mem h3, h4⟩
theorem zli_u {T : List Ztp} {R : List Nat} {p k k' : Nat} (hne : ∀ k, k < T.length → zA T k ≠ []) (hd : ∀ k k' i, k < T.length → k' < T.length → i ∈ zA T k → i ∈ zA T k' → k = k') (hk : k < T.length) (hk' : k' < T.length) (h : R.getD p 0 ∈ zA T k) (h' : zli T R p k') : k' = k :=
  hd k' k _ hk' hk (zli_hd (hne k' hk') h').1 h
theorem zrp_len {R : List Nat} {p a f b : Nat} (hp : p + a ≤ R.length) : (zrp R p a (List.range' f b)).length = p + b + (R.length - p - a) := by
  unfold zrp
  rw [List.length_append, List.length_append, List.length_take, List.length_drop, List.length_range']; omega
theorem zrp_get {R : List Nat} {p a f b j : Nat} (hp : p + a ≤ R.length) : (zrp R p a (List.range' f b)).getD j 0 = if j < p then R.getD j 0 else if j < p + b then f + (j - p) else R.getD (j - b + a) 0 := by
  unfold zrp
  rw [List.getD_eq_getElem?_getD, List.append_assoc, List.getElem?_append, List.length_take, Nat.min_eq_left (by omega)]
  by_cases c1 : j < p
  · rw [if_pos c1, if_pos c1, List.getElem?_take, if_pos c1, ← List.getD_eq_getElem?_getD]
  · rw [if_neg c1, if_neg c1, List.getElem?_append, List.length_range']
    by_cases c2 : j < p + b
    · rw [if_pos (by omega), if_pos c2, List.getElem?_range' (by omega)]
      show f + 1 * (j - p) = _
      rw [Nat.one_mul]
    · rw [if_neg (by omega), if_neg c2, List.getElem?_drop, ← List.getD_eq_getElem?_getD]
      congr 1; omega
theorem ext_getD {l m : List Nat} (hl : l.length = m.length) (h : ∀ j, j < l.length → l.getD j 0 = m.getD j 0) : l = m := by
  apply List.ext_getElem hl
  intro j h1 h2
  have := h j h1
  rw [List.getD_eq_getElem?_getD, List.getD_eq_getElem?_getD, List.getElem?_eq_getElem h1, List.getElem?_eq_getElem h2] at this
  exact this
theorem ztk_get {R : List Nat} {p a j : Nat} (hj : j < a) : (ztk R p a).getD j 0 = R.getD (p + j) 0 := by
  unfold ztk
  rw [List.getD_eq_getElem?_getD, List.getD_eq_getElem?_getD, List.getElem?_take, if_pos hj, List.getElem?_drop]
theorem ztk_eq {R A : List Nat} {p : Nat} (hp : p + A.length ≤ R.length) : ztk R p A.length = A ↔ ∀ j, j < A.length → R.getD (p + j) 0 = A.getD j 0 := by
  constructor
  · intro h j hj
    rw [← ztk_get (R := R) (p := p) hj, h]
  · intro h
    refine ext_getD (ztk_len hp) (fun j hj => ?_)
    rw [ztk_len hp] at hj
    rw [ztk_get hj]; exact h j hj
theorem zsn_mem {T : List Ztp} : ∀ (l : List Nat) (a : List Nat × Nat) (m : Nat), m ∈ (l.foldl (zs1 T) a).1 ↔ m ∈ a.1 ∨ ∃ i ∈ l, zmk T i = some m := by
  intro l
  induction l with
  | nil => intro a m; simp
  | cons x l ih =>
    intro a m
    rw [List.foldl_cons, ih]
    have key : m ∈ (zs1 T a x).1 ↔ m ∈ a.1 ∨ zmk T x = some m := by
      unfold zs1
      cases e : zmk T x with
      | none => simp
      | some q =>
        simp only [Option.some.injEq]
        split
        · rename_i hq
          constructor
          · exact Or.inl
          · rintro (h | h)
            · exact h
            · exact h ▸ hq
        · rw [List.mem_append, List.mem_singleton]
          constructor
          · rintro (h | h)
            · exact Or.inl h
            · exact Or.inr h.symm
          · rintro (h | h)
            · exact Or.inl h
            · exact Or.inr h.symm
    rw [key]
    constructor
    · rintro ((h | h) | ⟨i, hi, h⟩)
      · exact Or.inl h
      · exact Or.inr ⟨x, by simp, h⟩
      · exact Or.inr ⟨i, by simp [hi], h⟩
    · rintro (h | ⟨i, hi, h⟩)
      · exact Or.inl (Or.inl h)
      · rcases List.mem_cons.mp hi with e | hi
        · exact Or.inl (Or.inr (e ▸ h))
        · exact Or.inr ⟨i, hi, h⟩
def zsk (T : List Ztp) (A : List Nat) (t : Nat) : List Nat × Nat := (A.take t).foldl (zs1 T) ([], 0)
theorem zsk_succ {T : List Ztp} {A : List Nat} {t : Nat} (ht : t < A.length) : zsk T A (t + 1) = zs1 T (zsk T A t) (A.getD t 0) := by
  unfold zsk
  rw [List.take_succ_eq_append_getElem ht, List.foldl_append, List.getD_eq_getElem?_getD, List.getElem?_eq_getElem ht]; rfl
theorem zsk_all {T : List Ztp} {A : List Nat} : zsk T A A.length = zsn T A := by
  unfold zsk zsn; rw [List.take_length]
theorem zsk_mem {T : List Ztp} {A : List Nat} {t m : Nat} (ht : t ≤ A.length) : m ∈ (zsk T A t).1 ↔ ∃ j, j < t ∧ zmk T (A.getD j 0) = some m := by
  unfold zsk
  rw [zsn_mem]
  constructor
  · rintro (h | ⟨i, hi, h⟩)
    · cases h
    · obtain ⟨j, hj, e⟩ := mem_getD (d := 0) hi
      rw [List.length_take] at hj
      refine ⟨j, by omega, ?_⟩
      rw [← h, ← e, List.getD_eq_getElem?_getD, List.getD_eq_getElem?_getD, List.getElem?_take, if_pos (by omega)]
  · rintro ⟨j, hj, h⟩
    refine Or.inr ⟨A.getD j 0, ?_, h⟩
    have : (A.take t).getD j 0 = A.getD j 0 := by
      rw [List.getD_eq_getElem?_getD, List.getD_eq_getElem?_getD, List.getElem?_take, if_pos (by omega)]
    rw [← this]
    exact getD_mem (by rw [List.length_take]; omega)
theorem zmk_app {T : List Ztp} {x : Ztp} {e b : Nat} (h1 : x.2.1 = e) (h2 : x.2.2.1 = b) (hI : ∀ k, k < T.length → zF T k + zM T k ≤ e) (i : Nat) : zmk (T ++ [x]) i = if e ≤ i ∧ i < e + b then some T.length else zmk T i := by
  have hF : ∀ k, k < T.length → zF (T ++ [x]) k = zF T k ∧ zM (T ++ [x]) k = zM T k := fun k hk => by
    unfold zF zM; rw [zst_app1 hk]; exact ⟨rfl, rfl⟩
  have hFn : zF (T ++ [x]) T.length = e ∧ zM (T ++ [x]) T.length = b := by
    unfold zF zM; rw [zst_app2]; exact ⟨h1, h2⟩
  have hl : (T ++ [x]).length = T.length + 1 := by rw [List.length_append]; rfl
  unfold zmk
  rw [hl, List.range_succ, List.find?_append]
  have e1 : (List.range T.length).find? (fun k => decide (zF (T ++ [x]) k ≤ i ∧ i < zF (T ++ [x]) k + zM (T ++ [x]) k)) = (List.range T.length).find? (fun k => decide (zF T k ≤ i ∧ i < zF T k + zM T k)) := by
    have : ∀ l : List Nat, (∀ k ∈ l, k < T.length) → l.find? (fun k => decide (zF (T ++ [x]) k ≤ i ∧ i < zF (T ++ [x]) k + zM (T ++ [x]) k)) = l.find? (fun k => decide (zF T k ≤ i ∧ i < zF T k + zM T k)) := by
      intro l
      induction l with
      | nil => intro _; rfl
      | cons y l ih =>
        intro hy
        rw [List.find?_cons, List.find?_cons, ih (fun k hk => hy k (by simp [hk])), (hF y (hy y (by simp))).1, (hF y (hy y (by simp))).2]
    exact this _ (fun k hk => List.mem_range.mp hk)
  rw [e1]
  by_cases c : e ≤ i ∧ i < e + b
  · rw [if_pos c]
    have e2 : (List.range T.length).find? (fun k => decide (zF T k ≤ i ∧ i < zF T k + zM T k)) = none := by
      rw [List.find?_eq_none]
      intro k hk h9
      have := hI k (List.mem_range.mp hk)
      have := of_decide_eq_true h9
      omega
    rw [e2, Option.none_or, List.find?_cons, hFn.1, hFn.2, decide_eq_true c]
  · rw [if_neg c]
    have e3 : [T.length].find? (fun k => decide (zF (T ++ [x]) k ≤ i ∧ i < zF (T ++ [x]) k + zM (T ++ [x]) k)) = none := by
      rw [List.find?_cons, hFn.1, hFn.2, decide_eq_false c]; rfl
    rw [e3, Option.or_none]
def zrd (T : List Ztp) : Nat := T.foldl (fun a x => max a x.2.2.2.1) 0
theorem zrd_app {T : List Ztp} {x : Ztp} : zrd (T ++ [x]) = max (zrd T) x.2.2.2.1 := by
  unfold zrd; rw [List.foldl_append]; rfl
theorem zrd_b {T : List Ztp} {n : Nat} (h : ∀ k, k < T.length → zR T k ≤ n) : zrd T ≤ n := by
  have key : ∀ (l : List Ztp) (a : Nat), a ≤ n → (∀ x ∈ l, x.2.2.2.1 ≤ n) → l.foldl (fun a x => max a x.2.2.2.1) a ≤ n := by
    intro l
    induction l with
    | nil => intro a ha _; exact ha
    | cons y l ih =>
      intro a ha hy
      rw [List.foldl_cons]
      exact ih _ (by have := hy y (by simp); omega) (fun x hx => hy x (by simp [hx]))
  refine key T 0 (Nat.zero_le _) (fun x hx => ?_)
  obtain ⟨j, hj, e⟩ := mem_getD (d := (([], 0, 0, 0, 0) : Ztp)) hx
  have := h j hj
  unfold zR zst at this
  rw [e] at this
  exact this
