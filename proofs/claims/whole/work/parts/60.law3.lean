noncomputable def fK27 (sx : Nat → Int32) (L : Nat) (x m o : Nat) (i : Int32) (σ : St) : Option St :=
(sc sx L (i + 1)).bind fun v1827 =>
(sc sx L (i + 2)).bind fun v1833 =>
(fL_areKin σ x v1827 v1833 o).bind fun w1835 =>
(sc sx L (i + 1)).bind fun v1846 =>
(sc sx L (i + 2)).bind fun v1852 =>
(isO w1835.2 m 11).bind fun _ =>
(fX12_areKin w1835.2 m v1846 v1852).bind fun w1853 =>
(isO w1853.2 m 11).bind fun _ =>
(fX12_thrown w1853.2 m).bind fun w1859 =>
if w1859 = w1835.1 then
(if w1835.1 = 0 then
((aL w1853.2 o 0).bind fun v1876 =>
if w1853.1 = 0 then
(if (lg_cmp v1876 0) = 0 then
(some w1853.2)
else
(none))
else
(if (lg_cmp v1876 1) = 0 then
(some w1853.2)
else
(none)))
else
(some w1853.2))
else
(none)
set_option maxHeartbeats 4000000 in
set_option maxRecDepth 100000 in
theorem lK27 {X : xX} {adK adV : Nat → Nat} {b L : Nat} {sx : Nat → Int32} {x m o : Nat} {i : Int32} {σ σ' : St} {k : Nat × Nat} (C : Ok X code 7 RL room_1 (some .boolean)) (hst : (xl X).stackTraces = false) (Ev : xEnv adK adV (xA X) (xs X)) (S : Scr X b L sx) (hk : k.1 + 10 ≤ room_1.cells ∧ k.2 + 60 ≤ room_1.slots) (hf : fK27 sx L x m o i σ = some σ') (kk : ∀ k' : Nat × Nat, k'.1 ≤ k.1 + 10 ∧ k'.2 ≤ k.2 + 60 → Vz X k' σ' 2168 [(0, .ref (b)), (1, .ref (x)), (2, .ref (m)), (3, .ref (o)), (4, .int (i))] []) : Vz X k σ 1821 [(0, .ref (b)), (1, .ref (x)), (2, .ref (m)), (3, .ref (o)), (4, .int (i))] [] := by
  unfold fK27 at hf
  refine z_aload_n C dL_law_1821 1822 rfl 1 rfl rfl ?_
  refine z_aload_n C dL_law_1822 1823 rfl 0 rfl rfl ?_
  refine z_iload C dL_law_1823 1825 rfl 4 rfl ?_
  refine z_iconst C dL_law_1825 1826 rfl 1 (by decide) ?_
  refine z_iadd C dL_law_1826 1827 rfl ?_
  obtain ⟨v1827, hv1827, hf⟩ := x_bind hf
  refine z_sld C S hv1827 dL_law_1827 1828 rfl ?_
  refine z_aload_n C dL_law_1828 1829 rfl 0 rfl rfl ?_
  refine z_iload C dL_law_1829 1831 rfl 4 rfl ?_
  refine z_iconst C dL_law_1831 1832 rfl 2 (by decide) ?_
  refine z_iadd C dL_law_1832 1833 rfl ?_
  obtain ⟨v1833, hv1833, hf⟩ := x_bind hf
  refine z_sld C S hv1833 dL_law_1833 1834 rfl ?_
  refine z_aload_n C dL_law_1834 1835 rfl 3 rfl rfl ?_
  obtain ⟨w1835, hw1835, hf⟩ := x_bind hf
  refine e_cS C Ev dL_law_1835 1838 rfl (cL_areKinc hst hw1835) kwL_areKin w1397 ⟨rfl, rfl⟩ ⟨Nat.le_of_ble_eq_true rfl, Nat.le_of_ble_eq_true rfl⟩ (kle hk 2 12 rfl rfl) rfl rfl (Nat.le_of_ble_eq_true rfl) ?_
  refine z_istore C dL_law_1838 1840 rfl rfl [(5, .int (w1835.1)), (0, .ref (b)), (1, .ref (x)), (2, .ref (m)), (3, .ref (o)), (4, .int (i))] rfl ?_
  refine z_aload_n C dL_law_1840 1841 rfl 3 rfl rfl ?_
  refine z_aload_n C dL_law_1841 1842 rfl 1 rfl rfl ?_
  refine z_iload C dL_law_1842 1844 rfl 5 rfl ?_
  refine z_iconst C dL_law_1844 1845 rfl 1 (by decide) ?_
  refine z_iadd C dL_law_1845 1846 rfl ?_
  obtain ⟨v1846, hv1846, hf⟩ := x_bind hf
  refine z_sld C S hv1846 dL_law_1846 1847 rfl ?_
  refine z_aload_n C dL_law_1847 1848 rfl 1 rfl rfl ?_
  refine z_iload C dL_law_1848 1850 rfl 5 rfl ?_
  refine z_iconst C dL_law_1850 1851 rfl 2 (by decide) ?_
  refine z_iadd C dL_law_1851 1852 rfl ?_
  obtain ⟨v1852, hv1852, hf⟩ := x_bind hf
  refine z_sld C S hv1852 dL_law_1852 1853 rfl ?_
  obtain ⟨o1853, ho1853, hf⟩ := x_bind hf
  obtain ⟨w1853, hw1853, hf⟩ := x_bind hf
  refine z_callVi C dL_law_1853 1856 rfl ho1853 cl11.1 rfl (cX12_areKinc hw1853) kX12_areKin kvX12_areKin w1926 ⟨rfl, rfl⟩ ⟨Nat.le_of_ble_eq_true rfl, Nat.le_of_ble_eq_true rfl⟩ (kle hk 2 12 rfl rfl) rfl rfl (Nat.le_of_ble_eq_true rfl) ?_
  refine z_istore C dL_law_1856 1858 rfl rfl [(6, .int (w1853.1)), (5, .int (w1835.1)), (0, .ref (b)), (1, .ref (x)), (2, .ref (m)), (3, .ref (o)), (4, .int (i))] rfl ?_
  refine z_aload_n C dL_law_1858 1859 rfl 4 rfl rfl ?_
  obtain ⟨o1859, ho1859, hf⟩ := x_bind hf
  obtain ⟨w1859, hw1859, hf⟩ := x_bind hf
  refine z_callVi C dL_law_1859 1862 rfl ho1859 cl11.1 rfl (cX12_thrownc hw1859) kX12_thrown kvX12_thrown w1430 ⟨rfl, rfl⟩ ⟨Nat.le_of_ble_eq_true rfl, Nat.le_of_ble_eq_true rfl⟩ (kle hk 2 12 rfl rfl) rfl rfl (Nat.le_of_ble_eq_true rfl) ?_
  refine z_iload C dL_law_1862 1864 rfl 1 rfl ?_
  refine z_icmp_eq C dL_law_1864 1869 (by decide) 1867 rfl (fun hc => ?_) (fun hc => ?_)
  · have hf := (if_pos hc).symm.trans hf
    refine z_iload C dL_law_1869 1871 rfl 1 rfl ?_
    refine z_if_ne C dL_law_1871 1893 (by decide) 1874 rfl (fun hc => ?_) (fun hc => ?_)
    · have hf := (if_neg hc).symm.trans hf
      refine z_goto C dL_law_1893 2168 (by decide) ?_
      refine z_lv [2, 3, 4, 5, 6] (lv' := [(0, .ref (b)), (1, .ref (x)), (2, .ref (m)), (3, .ref (o)), (4, .int (i))]) rfl ?_
      have e9 := Option.some.inj hf
      subst e9
      exact kk (k.1 + 2, k.2 + 12) ⟨Nat.add_le_add_left (by decide) _, Nat.add_le_add_left (by decide) _⟩
    · have hf := (if_pos hc).symm.trans hf
      refine z_aload_n C dL_law_1874 1875 rfl 5 rfl rfl ?_
      refine z_iconst C dL_law_1875 1876 rfl 0 (by decide) ?_
      obtain ⟨v1876, hv1876, hf⟩ := x_bind hf
      refine z_laload C dL_law_1876 1877 rfl hv1876 ?_
      refine z_iload C dL_law_1877 1879 rfl 0 rfl ?_
      refine z_if_eq C dL_law_1879 1886 (by decide) 1882 rfl (fun hc => ?_) (fun hc => ?_)
      · have hf := (if_pos hc).symm.trans hf
        refine z_lconst C dL_law_1886 1887 rfl 0 (by decide) ?_
        refine z_lcmp C dL_law_1887 1888 rfl ?_
        refine z_if_eq C dL_law_1888 1893 (by decide) 1891 rfl (fun hc => ?_) (fun hc => ?_)
        · have hf := (if_pos hc).symm.trans hf
          refine z_goto C dL_law_1893 2168 (by decide) ?_
          refine z_lv [2, 3, 4, 5, 6] (lv' := [(0, .ref (b)), (1, .ref (x)), (2, .ref (m)), (3, .ref (o)), (4, .int (i))]) rfl ?_
          have e9 := Option.some.inj hf
          subst e9
          exact kk (k.1 + 2, k.2 + 12) ⟨Nat.add_le_add_left (by decide) _, Nat.add_le_add_left (by decide) _⟩
        · have hf := (if_neg hc).symm.trans hf
          cases hf
      · have hf := (if_neg hc).symm.trans hf
        refine z_lconst C dL_law_1882 1883 rfl 1 (by decide) ?_
        refine z_goto C dL_law_1883 1887 (by decide) ?_
        refine z_lcmp C dL_law_1887 1888 rfl ?_
        refine z_if_eq C dL_law_1888 1893 (by decide) 1891 rfl (fun hc => ?_) (fun hc => ?_)
        · have hf := (if_pos hc).symm.trans hf
          refine z_goto C dL_law_1893 2168 (by decide) ?_
          refine z_lv [2, 3, 4, 5, 6] (lv' := [(0, .ref (b)), (1, .ref (x)), (2, .ref (m)), (3, .ref (o)), (4, .int (i))]) rfl ?_
          have e9 := Option.some.inj hf
          subst e9
          exact kk (k.1 + 2, k.2 + 12) ⟨Nat.add_le_add_left (by decide) _, Nat.add_le_add_left (by decide) _⟩
        · have hf := (if_neg hc).symm.trans hf
          cases hf
  · have hf := (if_neg hc).symm.trans hf
    cases hf
noncomputable def fK28 (sx : Nat → Int32) (L : Nat) (x m o : Nat) (i : Int32) (σ : St) : Option St :=
(sc sx L (i + 1)).bind fun v1902 =>
(sc sx L (i + 2)).bind fun v1908 =>
(sc sx L (i + 3)).bind fun v1914 =>
(fL_made σ x v1902 v1908 v1914 o).bind fun w1916 =>
(sc sx L (i + 1)).bind fun v1927 =>
(sc sx L (i + 2)).bind fun v1933 =>
(sc sx L (i + 3)).bind fun v1939 =>
(isO w1916.2 m 11).bind fun _ =>
(fX12_made_ w1916.2 m v1927 v1933 v1939).bind fun w1940 =>
(isO w1940.2 m 11).bind fun _ =>
(fX12_thrown w1940.2 m).bind fun w1946 =>
if w1946 = w1916.1 then
(if w1916.1 = 0 then
((aL w1940.2 o 0).bind fun v1963 =>
if (lg_cmp v1963 w1940.1.toInt64) = 0 then
(some w1940.2)
else
(none))
else
(some w1940.2))
else
(none)
set_option maxHeartbeats 4000000 in
set_option maxRecDepth 100000 in
theorem lK28 {X : xX} {adK adV : Nat → Nat} {b L : Nat} {sx : Nat → Int32} {x m o : Nat} {i : Int32} {σ σ' : St} {k : Nat × Nat} (C : Ok X code 7 RL room_1 (some .boolean)) (hst : (xl X).stackTraces = false) (Ev : xEnv adK adV (xA X) (xs X)) (S : Scr X b L sx) (hk : k.1 + 10 ≤ room_1.cells ∧ k.2 + 60 ≤ room_1.slots) (hf : fK28 sx L x m o i σ = some σ') (kk : ∀ k' : Nat × Nat, k'.1 ≤ k.1 + 10 ∧ k'.2 ≤ k.2 + 60 → Vz X k' σ' 2168 [(0, .ref (b)), (1, .ref (x)), (2, .ref (m)), (3, .ref (o)), (4, .int (i))] []) : Vz X k σ 1896 [(0, .ref (b)), (1, .ref (x)), (2, .ref (m)), (3, .ref (o)), (4, .int (i))] [] := by
  unfold fK28 at hf
  refine z_aload_n C dL_law_1896 1897 rfl 1 rfl rfl ?_
  refine z_aload_n C dL_law_1897 1898 rfl 0 rfl rfl ?_
  refine z_iload C dL_law_1898 1900 rfl 4 rfl ?_
  refine z_iconst C dL_law_1900 1901 rfl 1 (by decide) ?_
  refine z_iadd C dL_law_1901 1902 rfl ?_
  obtain ⟨v1902, hv1902, hf⟩ := x_bind hf
  refine z_sld C S hv1902 dL_law_1902 1903 rfl ?_
  refine z_aload_n C dL_law_1903 1904 rfl 0 rfl rfl ?_
  refine z_iload C dL_law_1904 1906 rfl 4 rfl ?_
  refine z_iconst C dL_law_1906 1907 rfl 2 (by decide) ?_
  refine z_iadd C dL_law_1907 1908 rfl ?_
  obtain ⟨v1908, hv1908, hf⟩ := x_bind hf
  refine z_sld C S hv1908 dL_law_1908 1909 rfl ?_
  refine z_aload_n C dL_law_1909 1910 rfl 0 rfl rfl ?_
  refine z_iload C dL_law_1910 1912 rfl 4 rfl ?_
  refine z_iconst C dL_law_1912 1913 rfl 3 (by decide) ?_
  refine z_iadd C dL_law_1913 1914 rfl ?_
  obtain ⟨v1914, hv1914, hf⟩ := x_bind hf
  refine z_sld C S hv1914 dL_law_1914 1915 rfl ?_
  refine z_aload_n C dL_law_1915 1916 rfl 3 rfl rfl ?_
  obtain ⟨w1916, hw1916, hf⟩ := x_bind hf
  refine e_cS C Ev dL_law_1916 1919 rfl (cL_madec hst hw1916) kwL_made w1404 ⟨rfl, rfl⟩ ⟨Nat.le_of_ble_eq_true rfl, Nat.le_of_ble_eq_true rfl⟩ (kle hk 3 18 rfl rfl) rfl rfl (Nat.le_of_ble_eq_true rfl) ?_
  refine z_istore C dL_law_1919 1921 rfl rfl [(5, .int (w1916.1)), (0, .ref (b)), (1, .ref (x)), (2, .ref (m)), (3, .ref (o)), (4, .int (i))] rfl ?_
  refine z_aload_n C dL_law_1921 1922 rfl 3 rfl rfl ?_
  refine z_aload_n C dL_law_1922 1923 rfl 1 rfl rfl ?_
  refine z_iload C dL_law_1923 1925 rfl 5 rfl ?_
  refine z_iconst C dL_law_1925 1926 rfl 1 (by decide) ?_
  refine z_iadd C dL_law_1926 1927 rfl ?_
  obtain ⟨v1927, hv1927, hf⟩ := x_bind hf
  refine z_sld C S hv1927 dL_law_1927 1928 rfl ?_
  refine z_aload_n C dL_law_1928 1929 rfl 1 rfl rfl ?_
  refine z_iload C dL_law_1929 1931 rfl 5 rfl ?_
  refine z_iconst C dL_law_1931 1932 rfl 2 (by decide) ?_
  refine z_iadd C dL_law_1932 1933 rfl ?_
  obtain ⟨v1933, hv1933, hf⟩ := x_bind hf
  refine z_sld C S hv1933 dL_law_1933 1934 rfl ?_
  refine z_aload_n C dL_law_1934 1935 rfl 1 rfl rfl ?_
  refine z_iload C dL_law_1935 1937 rfl 5 rfl ?_
  refine z_iconst C dL_law_1937 1938 rfl 3 (by decide) ?_
  refine z_iadd C dL_law_1938 1939 rfl ?_
  obtain ⟨v1939, hv1939, hf⟩ := x_bind hf
  refine z_sld C S hv1939 dL_law_1939 1940 rfl ?_
  obtain ⟨o1940, ho1940, hf⟩ := x_bind hf
  obtain ⟨w1940, hw1940, hf⟩ := x_bind hf
  refine z_callVi C dL_law_1940 1943 rfl ho1940 cl11.1 rfl (cX12_made_c hw1940) kX12_made_ kvX12_made_ w2109 ⟨rfl, rfl⟩ ⟨Nat.le_of_ble_eq_true rfl, Nat.le_of_ble_eq_true rfl⟩ (kle hk 3 18 rfl rfl) rfl rfl (Nat.le_of_ble_eq_true rfl) ?_
  refine z_istore C dL_law_1943 1945 rfl rfl [(6, .int (w1940.1)), (5, .int (w1916.1)), (0, .ref (b)), (1, .ref (x)), (2, .ref (m)), (3, .ref (o)), (4, .int (i))] rfl ?_
  refine z_aload_n C dL_law_1945 1946 rfl 4 rfl rfl ?_
  obtain ⟨o1946, ho1946, hf⟩ := x_bind hf
  obtain ⟨w1946, hw1946, hf⟩ := x_bind hf
  refine z_callVi C dL_law_1946 1949 rfl ho1946 cl11.1 rfl (cX12_thrownc hw1946) kX12_thrown kvX12_thrown w1430 ⟨rfl, rfl⟩ ⟨Nat.le_of_ble_eq_true rfl, Nat.le_of_ble_eq_true rfl⟩ (kle hk 3 18 rfl rfl) rfl rfl (Nat.le_of_ble_eq_true rfl) ?_
  refine z_iload C dL_law_1949 1951 rfl 1 rfl ?_
  refine z_icmp_eq C dL_law_1951 1956 (by decide) 1954 rfl (fun hc => ?_) (fun hc => ?_)
  · have hf := (if_pos hc).symm.trans hf
    refine z_iload C dL_law_1956 1958 rfl 1 rfl ?_
    refine z_if_ne C dL_law_1958 1973 (by decide) 1961 rfl (fun hc => ?_) (fun hc => ?_)
    · have hf := (if_neg hc).symm.trans hf
      refine z_goto C dL_law_1973 2168 (by decide) ?_
      refine z_lv [2, 3, 4, 5, 6] (lv' := [(0, .ref (b)), (1, .ref (x)), (2, .ref (m)), (3, .ref (o)), (4, .int (i))]) rfl ?_
      have e9 := Option.some.inj hf
      subst e9
      exact kk (k.1 + 3, k.2 + 18) ⟨Nat.add_le_add_left (by decide) _, Nat.add_le_add_left (by decide) _⟩
    · have hf := (if_pos hc).symm.trans hf
      refine z_aload_n C dL_law_1961 1962 rfl 5 rfl rfl ?_
      refine z_iconst C dL_law_1962 1963 rfl 0 (by decide) ?_
      obtain ⟨v1963, hv1963, hf⟩ := x_bind hf
      refine z_laload C dL_law_1963 1964 rfl hv1963 ?_
      refine z_iload C dL_law_1964 1966 rfl 0 rfl ?_
      refine z_i2l C dL_law_1966 1967 rfl ?_
      refine z_lcmp C dL_law_1967 1968 rfl ?_
      refine z_if_eq C dL_law_1968 1973 (by decide) 1971 rfl (fun hc => ?_) (fun hc => ?_)
      · have hf := (if_pos hc).symm.trans hf
        refine z_goto C dL_law_1973 2168 (by decide) ?_
        refine z_lv [2, 3, 4, 5, 6] (lv' := [(0, .ref (b)), (1, .ref (x)), (2, .ref (m)), (3, .ref (o)), (4, .int (i))]) rfl ?_
        have e9 := Option.some.inj hf
        subst e9
        exact kk (k.1 + 3, k.2 + 18) ⟨Nat.add_le_add_left (by decide) _, Nat.add_le_add_left (by decide) _⟩
      · have hf := (if_neg hc).symm.trans hf
        cases hf
  · have hf := (if_neg hc).symm.trans hf
    cases hf
noncomputable def fK29 (sx : Nat → Int32) (L : Nat) (x m o : Nat) (i : Int32) (σ : St) : Option St :=
(sc sx L (i + 1)).bind fun v1982 =>
(sc sx L (i + 2)).bind fun v1988 =>
(sc sx L (i + 3)).bind fun v1994 =>
(fL_canon σ x v1982 v1988 v1994 o).bind fun w1996 =>
(sc sx L (i + 1)).bind fun v2007 =>
(sc sx L (i + 2)).bind fun v2013 =>
(sc sx L (i + 3)).bind fun v2019 =>
(isO w1996.2 m 11).bind fun _ =>
(fX12_canon w1996.2 m v2007 v2013 v2019).bind fun w2020 =>
(isO w2020.2 m 11).bind fun _ =>
(fX12_thrown w2020.2 m).bind fun w2026 =>
if w2026 = w1996.1 then
(if w1996.1 = 0 then
((aL w2020.2 o 0).bind fun v2043 =>
if (lg_cmp v2043 w2020.1.toInt64) = 0 then
(some w2020.2)
else
(none))
else
(some w2020.2))
else
(none)
set_option maxHeartbeats 4000000 in
set_option maxRecDepth 100000 in
theorem lK29 {X : xX} {adK adV : Nat → Nat} {b L : Nat} {sx : Nat → Int32} {x m o : Nat} {i : Int32} {σ σ' : St} {k : Nat × Nat} (C : Ok X code 7 RL room_1 (some .boolean)) (hst : (xl X).stackTraces = false) (Ev : xEnv adK adV (xA X) (xs X)) (S : Scr X b L sx) (hk : k.1 + 10 ≤ room_1.cells ∧ k.2 + 60 ≤ room_1.slots) (hf : fK29 sx L x m o i σ = some σ') (kk : ∀ k' : Nat × Nat, k'.1 ≤ k.1 + 10 ∧ k'.2 ≤ k.2 + 60 → Vz X k' σ' 2168 [(0, .ref (b)), (1, .ref (x)), (2, .ref (m)), (3, .ref (o)), (4, .int (i))] []) : Vz X k σ 1976 [(0, .ref (b)), (1, .ref (x)), (2, .ref (m)), (3, .ref (o)), (4, .int (i))] [] := by
  unfold fK29 at hf
  refine z_aload_n C dL_law_1976 1977 rfl 1 rfl rfl ?_
  refine z_aload_n C dL_law_1977 1978 rfl 0 rfl rfl ?_
  refine z_iload C dL_law_1978 1980 rfl 4 rfl ?_
  refine z_iconst C dL_law_1980 1981 rfl 1 (by decide) ?_
  refine z_iadd C dL_law_1981 1982 rfl ?_
  obtain ⟨v1982, hv1982, hf⟩ := x_bind hf
  refine z_sld C S hv1982 dL_law_1982 1983 rfl ?_
  refine z_aload_n C dL_law_1983 1984 rfl 0 rfl rfl ?_
  refine z_iload C dL_law_1984 1986 rfl 4 rfl ?_
  refine z_iconst C dL_law_1986 1987 rfl 2 (by decide) ?_
  refine z_iadd C dL_law_1987 1988 rfl ?_
  obtain ⟨v1988, hv1988, hf⟩ := x_bind hf
  refine z_sld C S hv1988 dL_law_1988 1989 rfl ?_
  refine z_aload_n C dL_law_1989 1990 rfl 0 rfl rfl ?_
  refine z_iload C dL_law_1990 1992 rfl 4 rfl ?_
  refine z_iconst C dL_law_1992 1993 rfl 3 (by decide) ?_
  refine z_iadd C dL_law_1993 1994 rfl ?_
  obtain ⟨v1994, hv1994, hf⟩ := x_bind hf
  refine z_sld C S hv1994 dL_law_1994 1995 rfl ?_
  refine z_aload_n C dL_law_1995 1996 rfl 3 rfl rfl ?_
  obtain ⟨w1996, hw1996, hf⟩ := x_bind hf
  refine e_cS C Ev dL_law_1996 1999 rfl (cL_canonc hst hw1996) kwL_canon w1412 ⟨rfl, rfl⟩ ⟨Nat.le_of_ble_eq_true rfl, Nat.le_of_ble_eq_true rfl⟩ (kle hk 3 18 rfl rfl) rfl rfl (Nat.le_of_ble_eq_true rfl) ?_
  refine z_istore C dL_law_1999 2001 rfl rfl [(5, .int (w1996.1)), (0, .ref (b)), (1, .ref (x)), (2, .ref (m)), (3, .ref (o)), (4, .int (i))] rfl ?_
  refine z_aload_n C dL_law_2001 2002 rfl 3 rfl rfl ?_
  refine z_aload_n C dL_law_2002 2003 rfl 1 rfl rfl ?_
  refine z_iload C dL_law_2003 2005 rfl 5 rfl ?_
  refine z_iconst C dL_law_2005 2006 rfl 1 (by decide) ?_
  refine z_iadd C dL_law_2006 2007 rfl ?_
  obtain ⟨v2007, hv2007, hf⟩ := x_bind hf
  refine z_sld C S hv2007 dL_law_2007 2008 rfl ?_
  refine z_aload_n C dL_law_2008 2009 rfl 1 rfl rfl ?_
  refine z_iload C dL_law_2009 2011 rfl 5 rfl ?_
  refine z_iconst C dL_law_2011 2012 rfl 2 (by decide) ?_
  refine z_iadd C dL_law_2012 2013 rfl ?_
  obtain ⟨v2013, hv2013, hf⟩ := x_bind hf
  refine z_sld C S hv2013 dL_law_2013 2014 rfl ?_
  refine z_aload_n C dL_law_2014 2015 rfl 1 rfl rfl ?_
  refine z_iload C dL_law_2015 2017 rfl 5 rfl ?_
  refine z_iconst C dL_law_2017 2018 rfl 3 (by decide) ?_
  refine z_iadd C dL_law_2018 2019 rfl ?_
  obtain ⟨v2019, hv2019, hf⟩ := x_bind hf
  refine z_sld C S hv2019 dL_law_2019 2020 rfl ?_
  obtain ⟨o2020, ho2020, hf⟩ := x_bind hf
  obtain ⟨w2020, hw2020, hf⟩ := x_bind hf
  refine z_callVi C dL_law_2020 2023 rfl ho2020 cl11.1 rfl (cX12_canonc hw2020) kX12_canon kvX12_canon w2117 ⟨rfl, rfl⟩ ⟨Nat.le_of_ble_eq_true rfl, Nat.le_of_ble_eq_true rfl⟩ (kle hk 3 18 rfl rfl) rfl rfl (Nat.le_of_ble_eq_true rfl) ?_
  refine z_istore C dL_law_2023 2025 rfl rfl [(6, .int (w2020.1)), (5, .int (w1996.1)), (0, .ref (b)), (1, .ref (x)), (2, .ref (m)), (3, .ref (o)), (4, .int (i))] rfl ?_
  refine z_aload_n C dL_law_2025 2026 rfl 4 rfl rfl ?_
  obtain ⟨o2026, ho2026, hf⟩ := x_bind hf
  obtain ⟨w2026, hw2026, hf⟩ := x_bind hf
  refine z_callVi C dL_law_2026 2029 rfl ho2026 cl11.1 rfl (cX12_thrownc hw2026) kX12_thrown kvX12_thrown w1430 ⟨rfl, rfl⟩ ⟨Nat.le_of_ble_eq_true rfl, Nat.le_of_ble_eq_true rfl⟩ (kle hk 3 18 rfl rfl) rfl rfl (Nat.le_of_ble_eq_true rfl) ?_
  refine z_iload C dL_law_2029 2031 rfl 1 rfl ?_
  refine z_icmp_eq C dL_law_2031 2036 (by decide) 2034 rfl (fun hc => ?_) (fun hc => ?_)
  · have hf := (if_pos hc).symm.trans hf
    refine z_iload C dL_law_2036 2038 rfl 1 rfl ?_
    refine z_if_ne C dL_law_2038 2053 (by decide) 2041 rfl (fun hc => ?_) (fun hc => ?_)
    · have hf := (if_neg hc).symm.trans hf
      refine z_goto C dL_law_2053 2168 (by decide) ?_
      refine z_lv [2, 3, 4, 5, 6] (lv' := [(0, .ref (b)), (1, .ref (x)), (2, .ref (m)), (3, .ref (o)), (4, .int (i))]) rfl ?_
      have e9 := Option.some.inj hf
      subst e9
      exact kk (k.1 + 3, k.2 + 18) ⟨Nat.add_le_add_left (by decide) _, Nat.add_le_add_left (by decide) _⟩
    · have hf := (if_pos hc).symm.trans hf
      refine z_aload_n C dL_law_2041 2042 rfl 5 rfl rfl ?_
      refine z_iconst C dL_law_2042 2043 rfl 0 (by decide) ?_
      obtain ⟨v2043, hv2043, hf⟩ := x_bind hf
      refine z_laload C dL_law_2043 2044 rfl hv2043 ?_
      refine z_iload C dL_law_2044 2046 rfl 0 rfl ?_
      refine z_i2l C dL_law_2046 2047 rfl ?_
      refine z_lcmp C dL_law_2047 2048 rfl ?_
      refine z_if_eq C dL_law_2048 2053 (by decide) 2051 rfl (fun hc => ?_) (fun hc => ?_)
      · have hf := (if_pos hc).symm.trans hf
        refine z_goto C dL_law_2053 2168 (by decide) ?_
        refine z_lv [2, 3, 4, 5, 6] (lv' := [(0, .ref (b)), (1, .ref (x)), (2, .ref (m)), (3, .ref (o)), (4, .int (i))]) rfl ?_
        have e9 := Option.some.inj hf
        subst e9
        exact kk (k.1 + 3, k.2 + 18) ⟨Nat.add_le_add_left (by decide) _, Nat.add_le_add_left (by decide) _⟩
      · have hf := (if_neg hc).symm.trans hf
        cases hf
  · have hf := (if_neg hc).symm.trans hf
    cases hf
noncomputable def fK30 (sx : Nat → Int32) (L : Nat) (x m o : Nat) (i : Int32) (σ : St) : Option St :=
(sc sx L (i + 1)).bind fun v2062 =>
(sc sx L (i + 2)).bind fun v2068 =>
(fL_areOne σ x v2062 v2068 o).bind fun w2070 =>
(sc sx L (i + 1)).bind fun v2081 =>
(sc sx L (i + 2)).bind fun v2087 =>
(isO w2070.2 m 11).bind fun _ =>
(fX12_areOne w2070.2 m v2081 v2087).bind fun w2088 =>
(isO w2088.2 m 11).bind fun _ =>
(fX12_thrown w2088.2 m).bind fun w2094 =>
if w2094 = w2070.1 then
(if w2070.1 = 0 then
((aL w2088.2 o 0).bind fun v2111 =>
if w2088.1 = 0 then
(if (lg_cmp v2111 0) = 0 then
(some w2088.2)
else
(none))
else
(if (lg_cmp v2111 1) = 0 then
(some w2088.2)
else
(none)))
else
(some w2088.2))
else
(none)
set_option maxHeartbeats 4000000 in
set_option maxRecDepth 100000 in
theorem lK30 {X : xX} {adK adV : Nat → Nat} {b L : Nat} {sx : Nat → Int32} {x m o : Nat} {i : Int32} {σ σ' : St} {k : Nat × Nat} (C : Ok X code 7 RL room_1 (some .boolean)) (hst : (xl X).stackTraces = false) (Ev : xEnv adK adV (xA X) (xs X)) (S : Scr X b L sx) (hk : k.1 + 10 ≤ room_1.cells ∧ k.2 + 60 ≤ room_1.slots) (hf : fK30 sx L x m o i σ = some σ') (kk : ∀ k' : Nat × Nat, k'.1 ≤ k.1 + 10 ∧ k'.2 ≤ k.2 + 60 → Vz X k' σ' 2168 [(0, .ref (b)), (1, .ref (x)), (2, .ref (m)), (3, .ref (o)), (4, .int (i))] []) : Vz X k σ 2056 [(0, .ref (b)), (1, .ref (x)), (2, .ref (m)), (3, .ref (o)), (4, .int (i))] [] := by
  unfold fK30 at hf
  refine z_aload_n C dL_law_2056 2057 rfl 1 rfl rfl ?_
  refine z_aload_n C dL_law_2057 2058 rfl 0 rfl rfl ?_
  refine z_iload C dL_law_2058 2060 rfl 4 rfl ?_
  refine z_iconst C dL_law_2060 2061 rfl 1 (by decide) ?_
  refine z_iadd C dL_law_2061 2062 rfl ?_
  obtain ⟨v2062, hv2062, hf⟩ := x_bind hf
  refine z_sld C S hv2062 dL_law_2062 2063 rfl ?_
  refine z_aload_n C dL_law_2063 2064 rfl 0 rfl rfl ?_
  refine z_iload C dL_law_2064 2066 rfl 4 rfl ?_
  refine z_iconst C dL_law_2066 2067 rfl 2 (by decide) ?_
  refine z_iadd C dL_law_2067 2068 rfl ?_
  obtain ⟨v2068, hv2068, hf⟩ := x_bind hf
  refine z_sld C S hv2068 dL_law_2068 2069 rfl ?_
  refine z_aload_n C dL_law_2069 2070 rfl 3 rfl rfl ?_
  obtain ⟨w2070, hw2070, hf⟩ := x_bind hf
  refine e_cS C Ev dL_law_2070 2073 rfl (cL_areOnec hst hw2070) kwL_areOne w1419 ⟨rfl, rfl⟩ ⟨Nat.le_of_ble_eq_true rfl, Nat.le_of_ble_eq_true rfl⟩ (kle hk 2 12 rfl rfl) rfl rfl (Nat.le_of_ble_eq_true rfl) ?_
  refine z_istore C dL_law_2073 2075 rfl rfl [(5, .int (w2070.1)), (0, .ref (b)), (1, .ref (x)), (2, .ref (m)), (3, .ref (o)), (4, .int (i))] rfl ?_
  refine z_aload_n C dL_law_2075 2076 rfl 3 rfl rfl ?_
  refine z_aload_n C dL_law_2076 2077 rfl 1 rfl rfl ?_
  refine z_iload C dL_law_2077 2079 rfl 5 rfl ?_
  refine z_iconst C dL_law_2079 2080 rfl 1 (by decide) ?_
  refine z_iadd C dL_law_2080 2081 rfl ?_
  obtain ⟨v2081, hv2081, hf⟩ := x_bind hf
  refine z_sld C S hv2081 dL_law_2081 2082 rfl ?_
  refine z_aload_n C dL_law_2082 2083 rfl 1 rfl rfl ?_
  refine z_iload C dL_law_2083 2085 rfl 5 rfl ?_
  refine z_iconst C dL_law_2085 2086 rfl 2 (by decide) ?_
  refine z_iadd C dL_law_2086 2087 rfl ?_
  obtain ⟨v2087, hv2087, hf⟩ := x_bind hf
  refine z_sld C S hv2087 dL_law_2087 2088 rfl ?_
  obtain ⟨o2088, ho2088, hf⟩ := x_bind hf
  obtain ⟨w2088, hw2088, hf⟩ := x_bind hf
  refine z_callVi C dL_law_2088 2091 rfl ho2088 cl11.1 rfl (cX12_areOnec hw2088) kX12_areOne kvX12_areOne w2121 ⟨rfl, rfl⟩ ⟨Nat.le_of_ble_eq_true rfl, Nat.le_of_ble_eq_true rfl⟩ (kle hk 2 12 rfl rfl) rfl rfl (Nat.le_of_ble_eq_true rfl) ?_
  refine z_istore C dL_law_2091 2093 rfl rfl [(6, .int (w2088.1)), (5, .int (w2070.1)), (0, .ref (b)), (1, .ref (x)), (2, .ref (m)), (3, .ref (o)), (4, .int (i))] rfl ?_
  refine z_aload_n C dL_law_2093 2094 rfl 4 rfl rfl ?_
  obtain ⟨o2094, ho2094, hf⟩ := x_bind hf
  obtain ⟨w2094, hw2094, hf⟩ := x_bind hf
  refine z_callVi C dL_law_2094 2097 rfl ho2094 cl11.1 rfl (cX12_thrownc hw2094) kX12_thrown kvX12_thrown w1430 ⟨rfl, rfl⟩ ⟨Nat.le_of_ble_eq_true rfl, Nat.le_of_ble_eq_true rfl⟩ (kle hk 2 12 rfl rfl) rfl rfl (Nat.le_of_ble_eq_true rfl) ?_
  refine z_iload C dL_law_2097 2099 rfl 1 rfl ?_
  refine z_icmp_eq C dL_law_2099 2104 (by decide) 2102 rfl (fun hc => ?_) (fun hc => ?_)
  · have hf := (if_pos hc).symm.trans hf
    refine z_iload C dL_law_2104 2106 rfl 1 rfl ?_
    refine z_if_ne C dL_law_2106 2128 (by decide) 2109 rfl (fun hc => ?_) (fun hc => ?_)
    · have hf := (if_neg hc).symm.trans hf
      refine z_goto C dL_law_2128 2168 (by decide) ?_
      refine z_lv [2, 3, 4, 5, 6] (lv' := [(0, .ref (b)), (1, .ref (x)), (2, .ref (m)), (3, .ref (o)), (4, .int (i))]) rfl ?_
      have e9 := Option.some.inj hf
      subst e9
      exact kk (k.1 + 2, k.2 + 12) ⟨Nat.add_le_add_left (by decide) _, Nat.add_le_add_left (by decide) _⟩
    · have hf := (if_pos hc).symm.trans hf
      refine z_aload_n C dL_law_2109 2110 rfl 5 rfl rfl ?_
      refine z_iconst C dL_law_2110 2111 rfl 0 (by decide) ?_
      obtain ⟨v2111, hv2111, hf⟩ := x_bind hf
      refine z_laload C dL_law_2111 2112 rfl hv2111 ?_
      refine z_iload C dL_law_2112 2114 rfl 0 rfl ?_
      refine z_if_eq C dL_law_2114 2121 (by decide) 2117 rfl (fun hc => ?_) (fun hc => ?_)
      · have hf := (if_pos hc).symm.trans hf
        refine z_lconst C dL_law_2121 2122 rfl 0 (by decide) ?_
        refine z_lcmp C dL_law_2122 2123 rfl ?_
        refine z_if_eq C dL_law_2123 2128 (by decide) 2126 rfl (fun hc => ?_) (fun hc => ?_)
        · have hf := (if_pos hc).symm.trans hf
          refine z_goto C dL_law_2128 2168 (by decide) ?_
          refine z_lv [2, 3, 4, 5, 6] (lv' := [(0, .ref (b)), (1, .ref (x)), (2, .ref (m)), (3, .ref (o)), (4, .int (i))]) rfl ?_
          have e9 := Option.some.inj hf
          subst e9
          exact kk (k.1 + 2, k.2 + 12) ⟨Nat.add_le_add_left (by decide) _, Nat.add_le_add_left (by decide) _⟩
        · have hf := (if_neg hc).symm.trans hf
          cases hf
      · have hf := (if_neg hc).symm.trans hf
        refine z_lconst C dL_law_2117 2118 rfl 1 (by decide) ?_
        refine z_goto C dL_law_2118 2122 (by decide) ?_
        refine z_lcmp C dL_law_2122 2123 rfl ?_
        refine z_if_eq C dL_law_2123 2128 (by decide) 2126 rfl (fun hc => ?_) (fun hc => ?_)
        · have hf := (if_pos hc).symm.trans hf
          refine z_goto C dL_law_2128 2168 (by decide) ?_
          refine z_lv [2, 3, 4, 5, 6] (lv' := [(0, .ref (b)), (1, .ref (x)), (2, .ref (m)), (3, .ref (o)), (4, .int (i))]) rfl ?_
          have e9 := Option.some.inj hf
          subst e9
          exact kk (k.1 + 2, k.2 + 12) ⟨Nat.add_le_add_left (by decide) _, Nat.add_le_add_left (by decide) _⟩
        · have hf := (if_neg hc).symm.trans hf
          cases hf
  · have hf := (if_neg hc).symm.trans hf
    cases hf
noncomputable def fK31 (sx : Nat → Int32) (L : Nat) (x m o : Nat) (i : Int32) (σ : St) : Option St :=
(isO σ x 10).bind fun _ =>
(fX11_undo σ x).bind fun w2132 =>
(isO w2132.2 m 11).bind fun _ =>
(fX12_undo w2132.2 m).bind fun w2136 =>
if w2132.1 = w2136.1 then
(some w2136.2)
else
(none)
set_option maxHeartbeats 4000000 in
set_option maxRecDepth 100000 in
theorem lK31 {X : xX} {adK adV : Nat → Nat} {b L : Nat} {sx : Nat → Int32} {x m o : Nat} {i : Int32} {σ σ' : St} {k : Nat × Nat} (C : Ok X code 7 RL room_1 (some .boolean)) (hst : (xl X).stackTraces = false) (Ev : xEnv adK adV (xA X) (xs X)) (S : Scr X b L sx) (hk : k.1 + 10 ≤ room_1.cells ∧ k.2 + 60 ≤ room_1.slots) (hf : fK31 sx L x m o i σ = some σ') (kk : ∀ k' : Nat × Nat, k'.1 ≤ k.1 + 10 ∧ k'.2 ≤ k.2 + 60 → Vz X k' σ' 2168 [(0, .ref (b)), (1, .ref (x)), (2, .ref (m)), (3, .ref (o)), (4, .int (i))] []) : Vz X k σ 2131 [(0, .ref (b)), (1, .ref (x)), (2, .ref (m)), (3, .ref (o)), (4, .int (i))] [] := by
  unfold fK31 at hf
  refine z_aload_n C dL_law_2131 2132 rfl 1 rfl rfl ?_
  obtain ⟨o2132, ho2132, hf⟩ := x_bind hf
  obtain ⟨w2132, hw2132, hf⟩ := x_bind hf
  refine z_callVi C dL_law_2132 2135 rfl ho2132 cl10.1 rfl (cX11_undoc hw2132) kX11_undo kvX11_undo w734 ⟨rfl, rfl⟩ ⟨Nat.le_of_ble_eq_true rfl, Nat.le_of_ble_eq_true rfl⟩ (kle hk 0 0 rfl rfl) rfl rfl (Nat.le_of_ble_eq_true rfl) ?_
  refine z_aload_n C dL_law_2135 2136 rfl 2 rfl rfl ?_
  obtain ⟨o2136, ho2136, hf⟩ := x_bind hf
  obtain ⟨w2136, hw2136, hf⟩ := x_bind hf
  refine z_callVi C dL_law_2136 2139 rfl ho2136 cl11.1 rfl (cX12_undoc hw2136) kX12_undo kvX12_undo w1618 ⟨rfl, rfl⟩ ⟨Nat.le_of_ble_eq_true rfl, Nat.le_of_ble_eq_true rfl⟩ (kle hk 0 0 rfl rfl) rfl rfl (Nat.le_of_ble_eq_true rfl) ?_
  refine z_icmp_eq C dL_law_2139 2168 (by decide) 2142 rfl (fun hc => ?_) (fun hc => ?_)
  · have hf := (if_pos hc).symm.trans hf
    have e9 := Option.some.inj hf
    subst e9
    exact kk k ⟨Nat.le_add_right _ _, Nat.le_add_right _ _⟩
  · have hf := (if_neg hc).symm.trans hf
    cases hf
noncomputable def fK32 (sx : Nat → Int32) (L : Nat) (x m o : Nat) (i : Int32) (σ : St) : Option St :=
(isO σ x 10).bind fun _ =>
(fX11_image σ x).bind fun w2145 =>
(isO w2145 m 11).bind fun _ =>
(fX12_image w2145 m).bind fun w2149 =>
some w2149
set_option maxHeartbeats 4000000 in
set_option maxRecDepth 100000 in
theorem lK32 {X : xX} {adK adV : Nat → Nat} {b L : Nat} {sx : Nat → Int32} {x m o : Nat} {i : Int32} {σ σ' : St} {k : Nat × Nat} (C : Ok X code 7 RL room_1 (some .boolean)) (hst : (xl X).stackTraces = false) (Ev : xEnv adK adV (xA X) (xs X)) (S : Scr X b L sx) (hk : k.1 + 10 ≤ room_1.cells ∧ k.2 + 60 ≤ room_1.slots) (hf : fK32 sx L x m o i σ = some σ') (kk : ∀ k' : Nat × Nat, k'.1 ≤ k.1 + 10 ∧ k'.2 ≤ k.2 + 60 → Vz X k' σ' 2168 [(0, .ref (b)), (1, .ref (x)), (2, .ref (m)), (3, .ref (o)), (4, .int (i))] []) : Vz X k σ 2144 [(0, .ref (b)), (1, .ref (x)), (2, .ref (m)), (3, .ref (o)), (4, .int (i))] [] := by
  unfold fK32 at hf
  refine z_aload_n C dL_law_2144 2145 rfl 1 rfl rfl ?_
  obtain ⟨o2145, ho2145, hf⟩ := x_bind hf
  obtain ⟨w2145, hw2145, hf⟩ := x_bind hf
  refine z_callVv C dL_law_2145 2148 rfl ho2145 cl10.1 rfl (cX11_imagec hw2145) kX11_image kvX11_image w742 ⟨rfl, rfl⟩ ⟨Nat.le_of_ble_eq_true rfl, Nat.le_of_ble_eq_true rfl⟩ (kle hk 0 0 rfl rfl) rfl rfl (Nat.le_of_ble_eq_true rfl) ?_
  refine z_aload_n C dL_law_2148 2149 rfl 2 rfl rfl ?_
  obtain ⟨o2149, ho2149, hf⟩ := x_bind hf
  obtain ⟨w2149, hw2149, hf⟩ := x_bind hf
  refine z_callVv C dL_law_2149 2152 rfl ho2149 cl11.1 rfl (cX12_imagec hw2149) kX12_image kvX12_image w1625 ⟨rfl, rfl⟩ ⟨Nat.le_of_ble_eq_true rfl, Nat.le_of_ble_eq_true rfl⟩ (kle hk 0 0 rfl rfl) rfl rfl (Nat.le_of_ble_eq_true rfl) ?_
  refine z_goto C dL_law_2152 2168 (by decide) ?_
  have e9 := Option.some.inj hf
  subst e9
  exact kk k ⟨Nat.le_add_right _ _, Nat.le_add_right _ _⟩
noncomputable def fK33 (sx : Nat → Int32) (L : Nat) (x m o : Nat) (i : Int32) (σ : St) : Option St :=
(isO σ x 10).bind fun _ =>
(fX11_back σ x).bind fun w2156 =>
(isO w2156.2 m 11).bind fun _ =>
(fX12_back w2156.2 m).bind fun w2160 =>
if w2156.1 = w2160.1 then
(some w2160.2)
else
(none)
set_option maxHeartbeats 4000000 in
set_option maxRecDepth 100000 in
theorem lK33 {X : xX} {adK adV : Nat → Nat} {b L : Nat} {sx : Nat → Int32} {x m o : Nat} {i : Int32} {σ σ' : St} {k : Nat × Nat} (C : Ok X code 7 RL room_1 (some .boolean)) (hst : (xl X).stackTraces = false) (Ev : xEnv adK adV (xA X) (xs X)) (S : Scr X b L sx) (hk : k.1 + 10 ≤ room_1.cells ∧ k.2 + 60 ≤ room_1.slots) (hf : fK33 sx L x m o i σ = some σ') (kk : ∀ k' : Nat × Nat, k'.1 ≤ k.1 + 10 ∧ k'.2 ≤ k.2 + 60 → Vz X k' σ' 2168 [(0, .ref (b)), (1, .ref (x)), (2, .ref (m)), (3, .ref (o)), (4, .int (i))] []) : Vz X k σ 2155 [(0, .ref (b)), (1, .ref (x)), (2, .ref (m)), (3, .ref (o)), (4, .int (i))] [] := by
  unfold fK33 at hf
  refine z_aload_n C dL_law_2155 2156 rfl 1 rfl rfl ?_
  obtain ⟨o2156, ho2156, hf⟩ := x_bind hf
  obtain ⟨w2156, hw2156, hf⟩ := x_bind hf
  refine z_callVi C dL_law_2156 2159 rfl ho2156 cl10.1 rfl (cX11_backc hw2156) kX11_back kvX11_back w747 ⟨rfl, rfl⟩ ⟨Nat.le_of_ble_eq_true rfl, Nat.le_of_ble_eq_true rfl⟩ (kle hk 0 0 rfl rfl) rfl rfl (Nat.le_of_ble_eq_true rfl) ?_
  refine z_aload_n C dL_law_2159 2160 rfl 2 rfl rfl ?_
  obtain ⟨o2160, ho2160, hf⟩ := x_bind hf
  obtain ⟨w2160, hw2160, hf⟩ := x_bind hf
  refine z_callVi C dL_law_2160 2163 rfl ho2160 cl11.1 rfl (cX12_backc hw2160) kX12_back kvX12_back w1629 ⟨rfl, rfl⟩ ⟨Nat.le_of_ble_eq_true rfl, Nat.le_of_ble_eq_true rfl⟩ (kle hk 0 0 rfl rfl) rfl rfl (Nat.le_of_ble_eq_true rfl) ?_
  refine z_icmp_eq C dL_law_2163 2168 (by decide) 2166 rfl (fun hc => ?_) (fun hc => ?_)
  · have hf := (if_pos hc).symm.trans hf
    have e9 := Option.some.inj hf
    subst e9
    exact kk k ⟨Nat.le_add_right _ _, Nat.le_add_right _ _⟩
  · have hf := (if_neg hc).symm.trans hf
    cases hf
