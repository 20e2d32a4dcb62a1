noncomputable def fK18 (sx : Nat → Int32) (L : Nat) (x m o : Nat) (i : Int32) (σ : St) : Option St :=
(sc sx L (i + 1)).bind fun v1424 =>
(sc sx L (i + 2)).bind fun v1430 =>
(fL_overlap σ x v1424 v1430 o).bind fun w1432 =>
(sc sx L (i + 1)).bind fun v1443 =>
(sc sx L (i + 2)).bind fun v1449 =>
(isO w1432.2 m 11).bind fun _ =>
(fX12_overlap w1432.2 m v1443 v1449).bind fun w1450 =>
(isO w1450.2 m 11).bind fun _ =>
(fX12_thrown w1450.2 m).bind fun w1456 =>
if w1456 = w1432.1 then
(if w1432.1 = 0 then
((aL w1450.2 o 0).bind fun v1473 =>
if (lg_cmp v1473 w1450.1.toInt64) = 0 then
(some w1450.2)
else
(none))
else
(some w1450.2))
else
(none)
set_option maxHeartbeats 4000000 in
set_option maxRecDepth 100000 in
theorem lK18 {X : xX} {adK adV : Nat → Nat} {b L : Nat} {sx : Nat → Int32} {x m o : Nat} {i : Int32} {σ σ' : St} {k : Nat × Nat} (C : Ok X code 7 RL room_1 (some .boolean)) (hst : (xl X).stackTraces = false) (Ev : xEnv adK adV (xA X) (xs X)) (S : Scr X b L sx) (hk : k.1 + 10 ≤ room_1.cells ∧ k.2 + 60 ≤ room_1.slots) (hf : fK18 sx L x m o i σ = some σ') (kk : ∀ k' : Nat × Nat, k'.1 ≤ k.1 + 10 ∧ k'.2 ≤ k.2 + 60 → Vz X k' σ' 2168 [(0, .ref (b)), (1, .ref (x)), (2, .ref (m)), (3, .ref (o)), (4, .int (i))] []) : Vz X k σ 1418 [(0, .ref (b)), (1, .ref (x)), (2, .ref (m)), (3, .ref (o)), (4, .int (i))] [] := by
  unfold fK18 at hf
  refine z_aload_n C dL_law_1418 1419 rfl 1 rfl rfl ?_
  refine z_aload_n C dL_law_1419 1420 rfl 0 rfl rfl ?_
  refine z_iload C dL_law_1420 1422 rfl 4 rfl ?_
  refine z_iconst C dL_law_1422 1423 rfl 1 (by decide) ?_
  refine z_iadd C dL_law_1423 1424 rfl ?_
  obtain ⟨v1424, hv1424, hf⟩ := x_bind hf
  refine z_sld C S hv1424 dL_law_1424 1425 rfl ?_
  refine z_aload_n C dL_law_1425 1426 rfl 0 rfl rfl ?_
  refine z_iload C dL_law_1426 1428 rfl 4 rfl ?_
  refine z_iconst C dL_law_1428 1429 rfl 2 (by decide) ?_
  refine z_iadd C dL_law_1429 1430 rfl ?_
  obtain ⟨v1430, hv1430, hf⟩ := x_bind hf
  refine z_sld C S hv1430 dL_law_1430 1431 rfl ?_
  refine z_aload_n C dL_law_1431 1432 rfl 3 rfl rfl ?_
  obtain ⟨w1432, hw1432, hf⟩ := x_bind hf
  refine e_cS C Ev dL_law_1432 1435 rfl (cL_overlapc hst hw1432) kwL_overlap w1287 ⟨rfl, rfl⟩ ⟨Nat.le_of_ble_eq_true rfl, Nat.le_of_ble_eq_true rfl⟩ (kle hk 2 12 rfl rfl) rfl rfl (Nat.le_of_ble_eq_true rfl) ?_
  refine z_istore C dL_law_1435 1437 rfl rfl [(5, .int (w1432.1)), (0, .ref (b)), (1, .ref (x)), (2, .ref (m)), (3, .ref (o)), (4, .int (i))] rfl ?_
  refine z_aload_n C dL_law_1437 1438 rfl 3 rfl rfl ?_
  refine z_aload_n C dL_law_1438 1439 rfl 1 rfl rfl ?_
  refine z_iload C dL_law_1439 1441 rfl 5 rfl ?_
  refine z_iconst C dL_law_1441 1442 rfl 1 (by decide) ?_
  refine z_iadd C dL_law_1442 1443 rfl ?_
  obtain ⟨v1443, hv1443, hf⟩ := x_bind hf
  refine z_sld C S hv1443 dL_law_1443 1444 rfl ?_
  refine z_aload_n C dL_law_1444 1445 rfl 1 rfl rfl ?_
  refine z_iload C dL_law_1445 1447 rfl 5 rfl ?_
  refine z_iconst C dL_law_1447 1448 rfl 2 (by decide) ?_
  refine z_iadd C dL_law_1448 1449 rfl ?_
  obtain ⟨v1449, hv1449, hf⟩ := x_bind hf
  refine z_sld C S hv1449 dL_law_1449 1450 rfl ?_
  obtain ⟨o1450, ho1450, hf⟩ := x_bind hf
  obtain ⟨w1450, hw1450, hf⟩ := x_bind hf
  refine z_callVi C dL_law_1450 1453 rfl ho1450 cl11.1 rfl (cX12_overlapc hw1450) kX12_overlap kvX12_overlap w1879 ⟨rfl, rfl⟩ ⟨Nat.le_of_ble_eq_true rfl, Nat.le_of_ble_eq_true rfl⟩ (kle hk 2 12 rfl rfl) rfl rfl (Nat.le_of_ble_eq_true rfl) ?_
  refine z_istore C dL_law_1453 1455 rfl rfl [(6, .int (w1450.1)), (5, .int (w1432.1)), (0, .ref (b)), (1, .ref (x)), (2, .ref (m)), (3, .ref (o)), (4, .int (i))] rfl ?_
  refine z_aload_n C dL_law_1455 1456 rfl 4 rfl rfl ?_
  obtain ⟨o1456, ho1456, hf⟩ := x_bind hf
  obtain ⟨w1456, hw1456, hf⟩ := x_bind hf
  refine z_callVi C dL_law_1456 1459 rfl ho1456 cl11.1 rfl (cX12_thrownc hw1456) kX12_thrown kvX12_thrown w1430 ⟨rfl, rfl⟩ ⟨Nat.le_of_ble_eq_true rfl, Nat.le_of_ble_eq_true rfl⟩ (kle hk 2 12 rfl rfl) rfl rfl (Nat.le_of_ble_eq_true rfl) ?_
  refine z_iload C dL_law_1459 1461 rfl 1 rfl ?_
  refine z_icmp_eq C dL_law_1461 1466 (by decide) 1464 rfl (fun hc => ?_) (fun hc => ?_)
  · have hf := (if_pos hc).symm.trans hf
    refine z_iload C dL_law_1466 1468 rfl 1 rfl ?_
    refine z_if_ne C dL_law_1468 1483 (by decide) 1471 rfl (fun hc => ?_) (fun hc => ?_)
    · have hf := (if_neg hc).symm.trans hf
      refine z_goto C dL_law_1483 2168 (by decide) ?_
      refine z_lv [2, 3, 4, 5, 6] (lv' := [(0, .ref (b)), (1, .ref (x)), (2, .ref (m)), (3, .ref (o)), (4, .int (i))]) rfl ?_
      have e9 := Option.some.inj hf
      subst e9
      exact kk (k.1 + 2, k.2 + 12) ⟨Nat.add_le_add_left (by decide) _, Nat.add_le_add_left (by decide) _⟩
    · have hf := (if_pos hc).symm.trans hf
      refine z_aload_n C dL_law_1471 1472 rfl 5 rfl rfl ?_
      refine z_iconst C dL_law_1472 1473 rfl 0 (by decide) ?_
      obtain ⟨v1473, hv1473, hf⟩ := x_bind hf
      refine z_laload C dL_law_1473 1474 rfl hv1473 ?_
      refine z_iload C dL_law_1474 1476 rfl 0 rfl ?_
      refine z_i2l C dL_law_1476 1477 rfl ?_
      refine z_lcmp C dL_law_1477 1478 rfl ?_
      refine z_if_eq C dL_law_1478 1483 (by decide) 1481 rfl (fun hc => ?_) (fun hc => ?_)
      · have hf := (if_pos hc).symm.trans hf
        refine z_goto C dL_law_1483 2168 (by decide) ?_
        refine z_lv [2, 3, 4, 5, 6] (lv' := [(0, .ref (b)), (1, .ref (x)), (2, .ref (m)), (3, .ref (o)), (4, .int (i))]) rfl ?_
        have e9 := Option.some.inj hf
        subst e9
        exact kk (k.1 + 2, k.2 + 12) ⟨Nat.add_le_add_left (by decide) _, Nat.add_le_add_left (by decide) _⟩
      · have hf := (if_neg hc).symm.trans hf
        cases hf
  · have hf := (if_neg hc).symm.trans hf
    cases hf
noncomputable def fK19 (sx : Nat → Int32) (L : Nat) (x m o : Nat) (i : Int32) (σ : St) : Option St :=
(sc sx L (i + 1)).bind fun v1492 =>
(fL_falls σ x v1492 o).bind fun w1494 =>
(sc sx L (i + 1)).bind fun v1505 =>
(isO w1494.2 m 11).bind fun _ =>
(fX12_falls w1494.2 m v1505).bind fun w1506 =>
(isO w1506.2 m 11).bind fun _ =>
(fX12_thrown w1506.2 m).bind fun w1512 =>
if w1512 = w1494.1 then
(if w1494.1 = 0 then
((aL w1506.2 o 0).bind fun v1529 =>
if w1506.1 = 0 then
(if (lg_cmp v1529 0) = 0 then
(some w1506.2)
else
(none))
else
(if (lg_cmp v1529 1) = 0 then
(some w1506.2)
else
(none)))
else
(some w1506.2))
else
(none)
set_option maxHeartbeats 4000000 in
set_option maxRecDepth 100000 in
theorem lK19 {X : xX} {adK adV : Nat → Nat} {b L : Nat} {sx : Nat → Int32} {x m o : Nat} {i : Int32} {σ σ' : St} {k : Nat × Nat} (C : Ok X code 7 RL room_1 (some .boolean)) (hst : (xl X).stackTraces = false) (Ev : xEnv adK adV (xA X) (xs X)) (S : Scr X b L sx) (hk : k.1 + 10 ≤ room_1.cells ∧ k.2 + 60 ≤ room_1.slots) (hf : fK19 sx L x m o i σ = some σ') (kk : ∀ k' : Nat × Nat, k'.1 ≤ k.1 + 10 ∧ k'.2 ≤ k.2 + 60 → Vz X k' σ' 2168 [(0, .ref (b)), (1, .ref (x)), (2, .ref (m)), (3, .ref (o)), (4, .int (i))] []) : Vz X k σ 1486 [(0, .ref (b)), (1, .ref (x)), (2, .ref (m)), (3, .ref (o)), (4, .int (i))] [] := by
  unfold fK19 at hf
  refine z_aload_n C dL_law_1486 1487 rfl 1 rfl rfl ?_
  refine z_aload_n C dL_law_1487 1488 rfl 0 rfl rfl ?_
  refine z_iload C dL_law_1488 1490 rfl 4 rfl ?_
  refine z_iconst C dL_law_1490 1491 rfl 1 (by decide) ?_
  refine z_iadd C dL_law_1491 1492 rfl ?_
  obtain ⟨v1492, hv1492, hf⟩ := x_bind hf
  refine z_sld C S hv1492 dL_law_1492 1493 rfl ?_
  refine z_aload_n C dL_law_1493 1494 rfl 3 rfl rfl ?_
  obtain ⟨w1494, hw1494, hf⟩ := x_bind hf
  refine e_cS C Ev dL_law_1494 1497 rfl (cL_fallsc hst hw1494) kwL_falls w1298 ⟨rfl, rfl⟩ ⟨Nat.le_of_ble_eq_true rfl, Nat.le_of_ble_eq_true rfl⟩ (kle hk 1 6 rfl rfl) rfl rfl (Nat.le_of_ble_eq_true rfl) ?_
  refine z_istore C dL_law_1497 1499 rfl rfl [(5, .int (w1494.1)), (0, .ref (b)), (1, .ref (x)), (2, .ref (m)), (3, .ref (o)), (4, .int (i))] rfl ?_
  refine z_aload_n C dL_law_1499 1500 rfl 3 rfl rfl ?_
  refine z_aload_n C dL_law_1500 1501 rfl 1 rfl rfl ?_
  refine z_iload C dL_law_1501 1503 rfl 5 rfl ?_
  refine z_iconst C dL_law_1503 1504 rfl 1 (by decide) ?_
  refine z_iadd C dL_law_1504 1505 rfl ?_
  obtain ⟨v1505, hv1505, hf⟩ := x_bind hf
  refine z_sld C S hv1505 dL_law_1505 1506 rfl ?_
  obtain ⟨o1506, ho1506, hf⟩ := x_bind hf
  obtain ⟨w1506, hw1506, hf⟩ := x_bind hf
  refine z_callVi C dL_law_1506 1509 rfl ho1506 cl11.1 rfl (cX12_fallsc hw1506) kX12_falls kvX12_falls w1884 ⟨rfl, rfl⟩ ⟨Nat.le_of_ble_eq_true rfl, Nat.le_of_ble_eq_true rfl⟩ (kle hk 1 6 rfl rfl) rfl rfl (Nat.le_of_ble_eq_true rfl) ?_
  refine z_istore C dL_law_1509 1511 rfl rfl [(6, .int (w1506.1)), (5, .int (w1494.1)), (0, .ref (b)), (1, .ref (x)), (2, .ref (m)), (3, .ref (o)), (4, .int (i))] rfl ?_
  refine z_aload_n C dL_law_1511 1512 rfl 4 rfl rfl ?_
  obtain ⟨o1512, ho1512, hf⟩ := x_bind hf
  obtain ⟨w1512, hw1512, hf⟩ := x_bind hf
  refine z_callVi C dL_law_1512 1515 rfl ho1512 cl11.1 rfl (cX12_thrownc hw1512) kX12_thrown kvX12_thrown w1430 ⟨rfl, rfl⟩ ⟨Nat.le_of_ble_eq_true rfl, Nat.le_of_ble_eq_true rfl⟩ (kle hk 1 6 rfl rfl) rfl rfl (Nat.le_of_ble_eq_true rfl) ?_
  refine z_iload C dL_law_1515 1517 rfl 1 rfl ?_
  refine z_icmp_eq C dL_law_1517 1522 (by decide) 1520 rfl (fun hc => ?_) (fun hc => ?_)
  · have hf := (if_pos hc).symm.trans hf
    refine z_iload C dL_law_1522 1524 rfl 1 rfl ?_
    refine z_if_ne C dL_law_1524 1546 (by decide) 1527 rfl (fun hc => ?_) (fun hc => ?_)
    · have hf := (if_neg hc).symm.trans hf
      refine z_goto C dL_law_1546 2168 (by decide) ?_
      refine z_lv [2, 3, 4, 5, 6] (lv' := [(0, .ref (b)), (1, .ref (x)), (2, .ref (m)), (3, .ref (o)), (4, .int (i))]) rfl ?_
      have e9 := Option.some.inj hf
      subst e9
      exact kk (k.1 + 1, k.2 + 6) ⟨Nat.add_le_add_left (by decide) _, Nat.add_le_add_left (by decide) _⟩
    · have hf := (if_pos hc).symm.trans hf
      refine z_aload_n C dL_law_1527 1528 rfl 5 rfl rfl ?_
      refine z_iconst C dL_law_1528 1529 rfl 0 (by decide) ?_
      obtain ⟨v1529, hv1529, hf⟩ := x_bind hf
      refine z_laload C dL_law_1529 1530 rfl hv1529 ?_
      refine z_iload C dL_law_1530 1532 rfl 0 rfl ?_
      refine z_if_eq C dL_law_1532 1539 (by decide) 1535 rfl (fun hc => ?_) (fun hc => ?_)
      · have hf := (if_pos hc).symm.trans hf
        refine z_lconst C dL_law_1539 1540 rfl 0 (by decide) ?_
        refine z_lcmp C dL_law_1540 1541 rfl ?_
        refine z_if_eq C dL_law_1541 1546 (by decide) 1544 rfl (fun hc => ?_) (fun hc => ?_)
        · have hf := (if_pos hc).symm.trans hf
          refine z_goto C dL_law_1546 2168 (by decide) ?_
          refine z_lv [2, 3, 4, 5, 6] (lv' := [(0, .ref (b)), (1, .ref (x)), (2, .ref (m)), (3, .ref (o)), (4, .int (i))]) rfl ?_
          have e9 := Option.some.inj hf
          subst e9
          exact kk (k.1 + 1, k.2 + 6) ⟨Nat.add_le_add_left (by decide) _, Nat.add_le_add_left (by decide) _⟩
        · have hf := (if_neg hc).symm.trans hf
          cases hf
      · have hf := (if_neg hc).symm.trans hf
        refine z_lconst C dL_law_1535 1536 rfl 1 (by decide) ?_
        refine z_goto C dL_law_1536 1540 (by decide) ?_
        refine z_lcmp C dL_law_1540 1541 rfl ?_
        refine z_if_eq C dL_law_1541 1546 (by decide) 1544 rfl (fun hc => ?_) (fun hc => ?_)
        · have hf := (if_pos hc).symm.trans hf
          refine z_goto C dL_law_1546 2168 (by decide) ?_
          refine z_lv [2, 3, 4, 5, 6] (lv' := [(0, .ref (b)), (1, .ref (x)), (2, .ref (m)), (3, .ref (o)), (4, .int (i))]) rfl ?_
          have e9 := Option.some.inj hf
          subst e9
          exact kk (k.1 + 1, k.2 + 6) ⟨Nat.add_le_add_left (by decide) _, Nat.add_le_add_left (by decide) _⟩
        · have hf := (if_neg hc).symm.trans hf
          cases hf
  · have hf := (if_neg hc).symm.trans hf
    cases hf
noncomputable def fK20 (sx : Nat → Int32) (L : Nat) (x m o : Nat) (i : Int32) (σ : St) : Option St :=
(sc sx L (i + 1)).bind fun v1555 =>
(fL_close σ x v1555 o).bind fun w1557 =>
(sc sx L (i + 1)).bind fun v1568 =>
(isO w1557.2 m 11).bind fun _ =>
(fX12_close w1557.2 m v1568).bind fun w1569 =>
(isO w1569.2 m 11).bind fun _ =>
(fX12_thrown w1569.2 m).bind fun w1575 =>
if w1575 = w1557.1 then
(if w1557.1 = 0 then
((aL w1569.2 o 0).bind fun v1592 =>
if (lg_cmp v1592 w1569.1.toInt64) = 0 then
(some w1569.2)
else
(none))
else
(some w1569.2))
else
(none)
set_option maxHeartbeats 4000000 in
set_option maxRecDepth 100000 in
theorem lK20 {X : xX} {adK adV : Nat → Nat} {b L : Nat} {sx : Nat → Int32} {x m o : Nat} {i : Int32} {σ σ' : St} {k : Nat × Nat} (C : Ok X code 7 RL room_1 (some .boolean)) (hst : (xl X).stackTraces = false) (Ev : xEnv adK adV (xA X) (xs X)) (S : Scr X b L sx) (hk : k.1 + 10 ≤ room_1.cells ∧ k.2 + 60 ≤ room_1.slots) (hf : fK20 sx L x m o i σ = some σ') (kk : ∀ k' : Nat × Nat, k'.1 ≤ k.1 + 10 ∧ k'.2 ≤ k.2 + 60 → Vz X k' σ' 2168 [(0, .ref (b)), (1, .ref (x)), (2, .ref (m)), (3, .ref (o)), (4, .int (i))] []) : Vz X k σ 1549 [(0, .ref (b)), (1, .ref (x)), (2, .ref (m)), (3, .ref (o)), (4, .int (i))] [] := by
  unfold fK20 at hf
  refine z_aload_n C dL_law_1549 1550 rfl 1 rfl rfl ?_
  refine z_aload_n C dL_law_1550 1551 rfl 0 rfl rfl ?_
  refine z_iload C dL_law_1551 1553 rfl 4 rfl ?_
  refine z_iconst C dL_law_1553 1554 rfl 1 (by decide) ?_
  refine z_iadd C dL_law_1554 1555 rfl ?_
  obtain ⟨v1555, hv1555, hf⟩ := x_bind hf
  refine z_sld C S hv1555 dL_law_1555 1556 rfl ?_
  refine z_aload_n C dL_law_1556 1557 rfl 3 rfl rfl ?_
  obtain ⟨w1557, hw1557, hf⟩ := x_bind hf
  refine e_cS C Ev dL_law_1557 1560 rfl (cL_closec hst hw1557) kwL_close w1306 ⟨rfl, rfl⟩ ⟨Nat.le_of_ble_eq_true rfl, Nat.le_of_ble_eq_true rfl⟩ (kle hk 1 6 rfl rfl) rfl rfl (Nat.le_of_ble_eq_true rfl) ?_
  refine z_istore C dL_law_1560 1562 rfl rfl [(5, .int (w1557.1)), (0, .ref (b)), (1, .ref (x)), (2, .ref (m)), (3, .ref (o)), (4, .int (i))] rfl ?_
  refine z_aload_n C dL_law_1562 1563 rfl 3 rfl rfl ?_
  refine z_aload_n C dL_law_1563 1564 rfl 1 rfl rfl ?_
  refine z_iload C dL_law_1564 1566 rfl 5 rfl ?_
  refine z_iconst C dL_law_1566 1567 rfl 1 (by decide) ?_
  refine z_iadd C dL_law_1567 1568 rfl ?_
  obtain ⟨v1568, hv1568, hf⟩ := x_bind hf
  refine z_sld C S hv1568 dL_law_1568 1569 rfl ?_
  obtain ⟨o1569, ho1569, hf⟩ := x_bind hf
  obtain ⟨w1569, hw1569, hf⟩ := x_bind hf
  refine z_callVi C dL_law_1569 1572 rfl ho1569 cl11.1 rfl (cX12_closec hw1569) kX12_close kvX12_close w1743 ⟨rfl, rfl⟩ ⟨Nat.le_of_ble_eq_true rfl, Nat.le_of_ble_eq_true rfl⟩ (kle hk 1 6 rfl rfl) rfl rfl (Nat.le_of_ble_eq_true rfl) ?_
  refine z_istore C dL_law_1572 1574 rfl rfl [(6, .int (w1569.1)), (5, .int (w1557.1)), (0, .ref (b)), (1, .ref (x)), (2, .ref (m)), (3, .ref (o)), (4, .int (i))] rfl ?_
  refine z_aload_n C dL_law_1574 1575 rfl 4 rfl rfl ?_
  obtain ⟨o1575, ho1575, hf⟩ := x_bind hf
  obtain ⟨w1575, hw1575, hf⟩ := x_bind hf
  refine z_callVi C dL_law_1575 1578 rfl ho1575 cl11.1 rfl (cX12_thrownc hw1575) kX12_thrown kvX12_thrown w1430 ⟨rfl, rfl⟩ ⟨Nat.le_of_ble_eq_true rfl, Nat.le_of_ble_eq_true rfl⟩ (kle hk 1 6 rfl rfl) rfl rfl (Nat.le_of_ble_eq_true rfl) ?_
  refine z_iload C dL_law_1578 1580 rfl 1 rfl ?_
  refine z_icmp_eq C dL_law_1580 1585 (by decide) 1583 rfl (fun hc => ?_) (fun hc => ?_)
  · have hf := (if_pos hc).symm.trans hf
    refine z_iload C dL_law_1585 1587 rfl 1 rfl ?_
    refine z_if_ne C dL_law_1587 1602 (by decide) 1590 rfl (fun hc => ?_) (fun hc => ?_)
    · have hf := (if_neg hc).symm.trans hf
      refine z_goto C dL_law_1602 2168 (by decide) ?_
      refine z_lv [2, 3, 4, 5, 6] (lv' := [(0, .ref (b)), (1, .ref (x)), (2, .ref (m)), (3, .ref (o)), (4, .int (i))]) rfl ?_
      have e9 := Option.some.inj hf
      subst e9
      exact kk (k.1 + 1, k.2 + 6) ⟨Nat.add_le_add_left (by decide) _, Nat.add_le_add_left (by decide) _⟩
    · have hf := (if_pos hc).symm.trans hf
      refine z_aload_n C dL_law_1590 1591 rfl 5 rfl rfl ?_
      refine z_iconst C dL_law_1591 1592 rfl 0 (by decide) ?_
      obtain ⟨v1592, hv1592, hf⟩ := x_bind hf
      refine z_laload C dL_law_1592 1593 rfl hv1592 ?_
      refine z_iload C dL_law_1593 1595 rfl 0 rfl ?_
      refine z_i2l C dL_law_1595 1596 rfl ?_
      refine z_lcmp C dL_law_1596 1597 rfl ?_
      refine z_if_eq C dL_law_1597 1602 (by decide) 1600 rfl (fun hc => ?_) (fun hc => ?_)
      · have hf := (if_pos hc).symm.trans hf
        refine z_goto C dL_law_1602 2168 (by decide) ?_
        refine z_lv [2, 3, 4, 5, 6] (lv' := [(0, .ref (b)), (1, .ref (x)), (2, .ref (m)), (3, .ref (o)), (4, .int (i))]) rfl ?_
        have e9 := Option.some.inj hf
        subst e9
        exact kk (k.1 + 1, k.2 + 6) ⟨Nat.add_le_add_left (by decide) _, Nat.add_le_add_left (by decide) _⟩
      · have hf := (if_neg hc).symm.trans hf
        cases hf
  · have hf := (if_neg hc).symm.trans hf
    cases hf
noncomputable def fK21 (sx : Nat → Int32) (L : Nat) (x m o : Nat) (i : Int32) (σ : St) : Option St :=
(isO σ x 10).bind fun _ =>
(fX11_tidy σ x).bind fun w1606 =>
(isO w1606.2 m 11).bind fun _ =>
(fX12_tidy w1606.2 m).bind fun w1610 =>
if w1606.1 = w1610.1 then
(some w1610.2)
else
(none)
set_option maxHeartbeats 4000000 in
set_option maxRecDepth 100000 in
theorem lK21 {X : xX} {adK adV : Nat → Nat} {b L : Nat} {sx : Nat → Int32} {x m o : Nat} {i : Int32} {σ σ' : St} {k : Nat × Nat} (C : Ok X code 7 RL room_1 (some .boolean)) (hst : (xl X).stackTraces = false) (Ev : xEnv adK adV (xA X) (xs X)) (S : Scr X b L sx) (hk : k.1 + 10 ≤ room_1.cells ∧ k.2 + 60 ≤ room_1.slots) (hf : fK21 sx L x m o i σ = some σ') (kk : ∀ k' : Nat × Nat, k'.1 ≤ k.1 + 10 ∧ k'.2 ≤ k.2 + 60 → Vz X k' σ' 2168 [(0, .ref (b)), (1, .ref (x)), (2, .ref (m)), (3, .ref (o)), (4, .int (i))] []) : Vz X k σ 1605 [(0, .ref (b)), (1, .ref (x)), (2, .ref (m)), (3, .ref (o)), (4, .int (i))] [] := by
  unfold fK21 at hf
  refine z_aload_n C dL_law_1605 1606 rfl 1 rfl rfl ?_
  obtain ⟨o1606, ho1606, hf⟩ := x_bind hf
  obtain ⟨w1606, hw1606, hf⟩ := x_bind hf
  refine z_callVi C dL_law_1606 1609 rfl ho1606 cl10.1 rfl (cX11_tidyc hw1606) kX11_tidy kvX11_tidy w588 ⟨rfl, rfl⟩ ⟨Nat.le_of_ble_eq_true rfl, Nat.le_of_ble_eq_true rfl⟩ (kle hk 0 0 rfl rfl) rfl rfl (Nat.le_of_ble_eq_true rfl) ?_
  refine z_aload_n C dL_law_1609 1610 rfl 2 rfl rfl ?_
  obtain ⟨o1610, ho1610, hf⟩ := x_bind hf
  obtain ⟨w1610, hw1610, hf⟩ := x_bind hf
  refine z_callVi C dL_law_1610 1613 rfl ho1610 cl11.1 rfl (cX12_tidyc hw1610) kX12_tidy kvX12_tidy w1826 ⟨rfl, rfl⟩ ⟨Nat.le_of_ble_eq_true rfl, Nat.le_of_ble_eq_true rfl⟩ (kle hk 0 0 rfl rfl) rfl rfl (Nat.le_of_ble_eq_true rfl) ?_
  refine z_icmp_eq C dL_law_1613 2168 (by decide) 1616 rfl (fun hc => ?_) (fun hc => ?_)
  · have hf := (if_pos hc).symm.trans hf
    have e9 := Option.some.inj hf
    subst e9
    exact kk k ⟨Nat.le_add_right _ _, Nat.le_add_right _ _⟩
  · have hf := (if_neg hc).symm.trans hf
    cases hf
noncomputable def fK22 (sx : Nat → Int32) (L : Nat) (x m o : Nat) (i : Int32) (σ : St) : Option St :=
(isO σ x 10).bind fun _ =>
(fX11_constant σ x).bind fun w1619 =>
(isO σ m 11).bind fun _ =>
(fX12_constant σ m).bind fun w1623 =>
if w1619 = w1623.1 then
(some w1623.2)
else
(none)
set_option maxHeartbeats 4000000 in
set_option maxRecDepth 100000 in
theorem lK22 {X : xX} {adK adV : Nat → Nat} {b L : Nat} {sx : Nat → Int32} {x m o : Nat} {i : Int32} {σ σ' : St} {k : Nat × Nat} (C : Ok X code 7 RL room_1 (some .boolean)) (hst : (xl X).stackTraces = false) (Ev : xEnv adK adV (xA X) (xs X)) (S : Scr X b L sx) (hk : k.1 + 10 ≤ room_1.cells ∧ k.2 + 60 ≤ room_1.slots) (hf : fK22 sx L x m o i σ = some σ') (kk : ∀ k' : Nat × Nat, k'.1 ≤ k.1 + 10 ∧ k'.2 ≤ k.2 + 60 → Vz X k' σ' 2168 [(0, .ref (b)), (1, .ref (x)), (2, .ref (m)), (3, .ref (o)), (4, .int (i))] []) : Vz X k σ 1618 [(0, .ref (b)), (1, .ref (x)), (2, .ref (m)), (3, .ref (o)), (4, .int (i))] [] := by
  unfold fK22 at hf
  refine z_aload_n C dL_law_1618 1619 rfl 1 rfl rfl ?_
  obtain ⟨o1619, ho1619, hf⟩ := x_bind hf
  obtain ⟨w1619, hw1619, hf⟩ := x_bind hf
  refine z_callVi C dL_law_1619 1622 rfl ho1619 cl10.1 rfl (cX11_constantc hw1619) kX11_constant kvX11_constant w700 ⟨rfl, rfl⟩ ⟨Nat.le_of_ble_eq_true rfl, Nat.le_of_ble_eq_true rfl⟩ (kle hk 0 0 rfl rfl) rfl rfl (Nat.le_of_ble_eq_true rfl) ?_
  refine z_aload_n C dL_law_1622 1623 rfl 2 rfl rfl ?_
  obtain ⟨o1623, ho1623, hf⟩ := x_bind hf
  obtain ⟨w1623, hw1623, hf⟩ := x_bind hf
  refine z_callVi C dL_law_1623 1626 rfl ho1623 cl11.1 rfl (cX12_constantc hw1623) kX12_constant kvX12_constant w1856 ⟨rfl, rfl⟩ ⟨Nat.le_of_ble_eq_true rfl, Nat.le_of_ble_eq_true rfl⟩ (kle hk 0 0 rfl rfl) rfl rfl (Nat.le_of_ble_eq_true rfl) ?_
  refine z_icmp_eq C dL_law_1626 2168 (by decide) 1629 rfl (fun hc => ?_) (fun hc => ?_)
  · have hf := (if_pos hc).symm.trans hf
    have e9 := Option.some.inj hf
    subst e9
    exact kk k ⟨Nat.le_add_right _ _, Nat.le_add_right _ _⟩
  · have hf := (if_neg hc).symm.trans hf
    cases hf
noncomputable def fK23 (sx : Nat → Int32) (L : Nat) (x m o : Nat) (i : Int32) (σ : St) : Option St :=
(isO σ x 10).bind fun _ =>
(fX11_say σ x).bind fun w1632 =>
(isO w1632.2 m 11).bind fun _ =>
(fX12_say w1632.2 m).bind fun w1636 =>
if w1632.1 = w1636.1 then
(some w1636.2)
else
(none)
set_option maxHeartbeats 4000000 in
set_option maxRecDepth 100000 in
theorem lK23 {X : xX} {adK adV : Nat → Nat} {b L : Nat} {sx : Nat → Int32} {x m o : Nat} {i : Int32} {σ σ' : St} {k : Nat × Nat} (C : Ok X code 7 RL room_1 (some .boolean)) (hst : (xl X).stackTraces = false) (Ev : xEnv adK adV (xA X) (xs X)) (S : Scr X b L sx) (hk : k.1 + 10 ≤ room_1.cells ∧ k.2 + 60 ≤ room_1.slots) (hf : fK23 sx L x m o i σ = some σ') (kk : ∀ k' : Nat × Nat, k'.1 ≤ k.1 + 10 ∧ k'.2 ≤ k.2 + 60 → Vz X k' σ' 2168 [(0, .ref (b)), (1, .ref (x)), (2, .ref (m)), (3, .ref (o)), (4, .int (i))] []) : Vz X k σ 1631 [(0, .ref (b)), (1, .ref (x)), (2, .ref (m)), (3, .ref (o)), (4, .int (i))] [] := by
  unfold fK23 at hf
  refine z_aload_n C dL_law_1631 1632 rfl 1 rfl rfl ?_
  obtain ⟨o1632, ho1632, hf⟩ := x_bind hf
  obtain ⟨w1632, hw1632, hf⟩ := x_bind hf
  refine z_callVi C dL_law_1632 1635 rfl ho1632 cl10.1 rfl (cX11_sayc hw1632) kX11_say kvX11_say w712 ⟨rfl, rfl⟩ ⟨Nat.le_of_ble_eq_true rfl, Nat.le_of_ble_eq_true rfl⟩ (kle hk 0 0 rfl rfl) rfl rfl (Nat.le_of_ble_eq_true rfl) ?_
  refine z_aload_n C dL_law_1635 1636 rfl 2 rfl rfl ?_
  obtain ⟨o1636, ho1636, hf⟩ := x_bind hf
  obtain ⟨w1636, hw1636, hf⟩ := x_bind hf
  refine z_callVi C dL_law_1636 1639 rfl ho1636 cl11.1 rfl (cX12_sayc hw1636) kX12_say kvX12_say w2093 ⟨rfl, rfl⟩ ⟨Nat.le_of_ble_eq_true rfl, Nat.le_of_ble_eq_true rfl⟩ (kle hk 0 0 rfl rfl) rfl rfl (Nat.le_of_ble_eq_true rfl) ?_
  refine z_icmp_eq C dL_law_1639 2168 (by decide) 1642 rfl (fun hc => ?_) (fun hc => ?_)
  · have hf := (if_pos hc).symm.trans hf
    have e9 := Option.some.inj hf
    subst e9
    exact kk k ⟨Nat.le_add_right _ _, Nat.le_add_right _ _⟩
  · have hf := (if_neg hc).symm.trans hf
    cases hf
noncomputable def fK24 (sx : Nat → Int32) (L : Nat) (x m o : Nat) (i : Int32) (σ : St) : Option St :=
(sc sx L (i + 1)).bind fun v1650 =>
(isO σ x 10).bind fun _ =>
(fX11_said σ x v1650).bind fun w1651 =>
(sc sx L (i + 1)).bind fun v1660 =>
(isO σ m 11).bind fun _ =>
(fX12_said σ m v1660).bind fun w1661 =>
if w1651 = w1661.1 then
(some w1661.2)
else
(none)
set_option maxHeartbeats 4000000 in
set_option maxRecDepth 100000 in
theorem lK24 {X : xX} {adK adV : Nat → Nat} {b L : Nat} {sx : Nat → Int32} {x m o : Nat} {i : Int32} {σ σ' : St} {k : Nat × Nat} (C : Ok X code 7 RL room_1 (some .boolean)) (hst : (xl X).stackTraces = false) (Ev : xEnv adK adV (xA X) (xs X)) (S : Scr X b L sx) (hk : k.1 + 10 ≤ room_1.cells ∧ k.2 + 60 ≤ room_1.slots) (hf : fK24 sx L x m o i σ = some σ') (kk : ∀ k' : Nat × Nat, k'.1 ≤ k.1 + 10 ∧ k'.2 ≤ k.2 + 60 → Vz X k' σ' 2168 [(0, .ref (b)), (1, .ref (x)), (2, .ref (m)), (3, .ref (o)), (4, .int (i))] []) : Vz X k σ 1644 [(0, .ref (b)), (1, .ref (x)), (2, .ref (m)), (3, .ref (o)), (4, .int (i))] [] := by
  unfold fK24 at hf
  refine z_aload_n C dL_law_1644 1645 rfl 1 rfl rfl ?_
  refine z_aload_n C dL_law_1645 1646 rfl 0 rfl rfl ?_
  refine z_iload C dL_law_1646 1648 rfl 4 rfl ?_
  refine z_iconst C dL_law_1648 1649 rfl 1 (by decide) ?_
  refine z_iadd C dL_law_1649 1650 rfl ?_
  obtain ⟨v1650, hv1650, hf⟩ := x_bind hf
  refine z_sld C S hv1650 dL_law_1650 1651 rfl ?_
  obtain ⟨o1651, ho1651, hf⟩ := x_bind hf
  obtain ⟨w1651, hw1651, hf⟩ := x_bind hf
  refine z_callVi C dL_law_1651 1654 rfl ho1651 cl10.1 rfl (cX11_saidc hw1651) kX11_said kvX11_said w730 ⟨rfl, rfl⟩ ⟨Nat.le_of_ble_eq_true rfl, Nat.le_of_ble_eq_true rfl⟩ (kle hk 0 0 rfl rfl) rfl rfl (Nat.le_of_ble_eq_true rfl) ?_
  refine z_aload_n C dL_law_1654 1655 rfl 2 rfl rfl ?_
  refine z_aload_n C dL_law_1655 1656 rfl 0 rfl rfl ?_
  refine z_iload C dL_law_1656 1658 rfl 4 rfl ?_
  refine z_iconst C dL_law_1658 1659 rfl 1 (by decide) ?_
  refine z_iadd C dL_law_1659 1660 rfl ?_
  obtain ⟨v1660, hv1660, hf⟩ := x_bind hf
  refine z_sld C S hv1660 dL_law_1660 1661 rfl ?_
  obtain ⟨o1661, ho1661, hf⟩ := x_bind hf
  obtain ⟨w1661, hw1661, hf⟩ := x_bind hf
  refine z_callVi C dL_law_1661 1664 rfl ho1661 cl11.1 rfl (cX12_saidc hw1661) kX12_said kvX12_said w2105 ⟨rfl, rfl⟩ ⟨Nat.le_of_ble_eq_true rfl, Nat.le_of_ble_eq_true rfl⟩ (kle hk 0 0 rfl rfl) rfl rfl (Nat.le_of_ble_eq_true rfl) ?_
  refine z_icmp_eq C dL_law_1664 2168 (by decide) 1667 rfl (fun hc => ?_) (fun hc => ?_)
  · have hf := (if_pos hc).symm.trans hf
    have e9 := Option.some.inj hf
    subst e9
    exact kk k ⟨Nat.le_add_right _ _, Nat.le_add_right _ _⟩
  · have hf := (if_neg hc).symm.trans hf
    cases hf
noncomputable def fK25 (sx : Nat → Int32) (L : Nat) (x m o : Nat) (i : Int32) (σ : St) : Option St :=
(sc sx L (i + 1)).bind fun v1675 =>
(sc sx L (i + 2)).bind fun v1681 =>
if v1681 = 0 then
((sc sx L (i + 3)).bind fun v1695 =>
(fL_head σ x v1675 0 v1695 o).bind fun w1697 =>
(sc sx L (i + 1)).bind fun v1708 =>
(sc sx L (i + 2)).bind fun v1714 =>
if v1714 = 0 then
((sc sx L (i + 3)).bind fun v1728 =>
(isO w1697.2 m 11).bind fun _ =>
(fX12_head w1697.2 m v1708 0 v1728).bind fun w1729 =>
(isO w1729.2 m 11).bind fun _ =>
(fX12_thrown w1729.2 m).bind fun w1735 =>
if w1735 = w1697.1 then
(if w1697.1 = 0 then
((aL w1729.2 o 0).bind fun v1752 =>
if (lg_cmp v1752 w1729.1.toInt64) = 0 then
(some w1729.2)
else
(none))
else
(some w1729.2))
else
(none))
else
((sc sx L (i + 3)).bind fun v1728 =>
(isO w1697.2 m 11).bind fun _ =>
(fX12_head w1697.2 m v1708 1 v1728).bind fun w1729 =>
(isO w1729.2 m 11).bind fun _ =>
(fX12_thrown w1729.2 m).bind fun w1735 =>
if w1735 = w1697.1 then
(if w1697.1 = 0 then
((aL w1729.2 o 0).bind fun v1752 =>
if (lg_cmp v1752 w1729.1.toInt64) = 0 then
(some w1729.2)
else
(none))
else
(some w1729.2))
else
(none)))
else
((sc sx L (i + 3)).bind fun v1695 =>
(fL_head σ x v1675 1 v1695 o).bind fun w1697 =>
(sc sx L (i + 1)).bind fun v1708 =>
(sc sx L (i + 2)).bind fun v1714 =>
if v1714 = 0 then
((sc sx L (i + 3)).bind fun v1728 =>
(isO w1697.2 m 11).bind fun _ =>
(fX12_head w1697.2 m v1708 0 v1728).bind fun w1729 =>
(isO w1729.2 m 11).bind fun _ =>
(fX12_thrown w1729.2 m).bind fun w1735 =>
if w1735 = w1697.1 then
(if w1697.1 = 0 then
((aL w1729.2 o 0).bind fun v1752 =>
if (lg_cmp v1752 w1729.1.toInt64) = 0 then
(some w1729.2)
else
(none))
else
(some w1729.2))
else
(none))
else
((sc sx L (i + 3)).bind fun v1728 =>
(isO w1697.2 m 11).bind fun _ =>
(fX12_head w1697.2 m v1708 1 v1728).bind fun w1729 =>
(isO w1729.2 m 11).bind fun _ =>
(fX12_thrown w1729.2 m).bind fun w1735 =>
if w1735 = w1697.1 then
(if w1697.1 = 0 then
((aL w1729.2 o 0).bind fun v1752 =>
if (lg_cmp v1752 w1729.1.toInt64) = 0 then
(some w1729.2)
else
(none))
else
(some w1729.2))
else
(none)))
set_option maxHeartbeats 4000000 in
set_option maxRecDepth 100000 in
theorem lK25 {X : xX} {adK adV : Nat → Nat} {b L : Nat} {sx : Nat → Int32} {x m o : Nat} {i : Int32} {σ σ' : St} {k : Nat × Nat} (C : Ok X code 7 RL room_1 (some .boolean)) (hst : (xl X).stackTraces = false) (Ev : xEnv adK adV (xA X) (xs X)) (S : Scr X b L sx) (hk : k.1 + 10 ≤ room_1.cells ∧ k.2 + 60 ≤ room_1.slots) (hf : fK25 sx L x m o i σ = some σ') (kk : ∀ k' : Nat × Nat, k'.1 ≤ k.1 + 10 ∧ k'.2 ≤ k.2 + 60 → Vz X k' σ' 2168 [(0, .ref (b)), (1, .ref (x)), (2, .ref (m)), (3, .ref (o)), (4, .int (i))] []) : Vz X k σ 1669 [(0, .ref (b)), (1, .ref (x)), (2, .ref (m)), (3, .ref (o)), (4, .int (i))] [] := by
  unfold fK25 at hf
  refine z_aload_n C dL_law_1669 1670 rfl 1 rfl rfl ?_
  refine z_aload_n C dL_law_1670 1671 rfl 0 rfl rfl ?_
  refine z_iload C dL_law_1671 1673 rfl 4 rfl ?_
  refine z_iconst C dL_law_1673 1674 rfl 1 (by decide) ?_
  refine z_iadd C dL_law_1674 1675 rfl ?_
  obtain ⟨v1675, hv1675, hf⟩ := x_bind hf
  refine z_sld C S hv1675 dL_law_1675 1676 rfl ?_
  refine z_aload_n C dL_law_1676 1677 rfl 0 rfl rfl ?_
  refine z_iload C dL_law_1677 1679 rfl 4 rfl ?_
  refine z_iconst C dL_law_1679 1680 rfl 2 (by decide) ?_
  refine z_iadd C dL_law_1680 1681 rfl ?_
  obtain ⟨v1681, hv1681, hf⟩ := x_bind hf
  refine z_sld C S hv1681 dL_law_1681 1682 rfl ?_
  refine z_if_eq C dL_law_1682 1689 (by decide) 1685 rfl (fun hc => ?_) (fun hc => ?_)
  · have hf := (if_pos hc).symm.trans hf
    refine z_iconst C dL_law_1689 1690 rfl 0 (by decide) ?_
    refine z_aload_n C dL_law_1690 1691 rfl 0 rfl rfl ?_
    refine z_iload C dL_law_1691 1693 rfl 4 rfl ?_
    refine z_iconst C dL_law_1693 1694 rfl 3 (by decide) ?_
    refine z_iadd C dL_law_1694 1695 rfl ?_
    obtain ⟨v1695, hv1695, hf⟩ := x_bind hf
    refine z_sld C S hv1695 dL_law_1695 1696 rfl ?_
    refine z_aload_n C dL_law_1696 1697 rfl 3 rfl rfl ?_
    obtain ⟨w1697, hw1697, hf⟩ := x_bind hf
    refine e_cS C Ev dL_law_1697 1700 rfl (cL_headc hst hw1697) kwL_head w1324 ⟨rfl, rfl⟩ ⟨Nat.le_of_ble_eq_true rfl, Nat.le_of_ble_eq_true rfl⟩ (kle hk 2 12 rfl rfl) rfl rfl (Nat.le_of_ble_eq_true rfl) ?_
    refine z_istore C dL_law_1700 1702 rfl rfl [(5, .int (w1697.1)), (0, .ref (b)), (1, .ref (x)), (2, .ref (m)), (3, .ref (o)), (4, .int (i))] rfl ?_
    refine z_aload_n C dL_law_1702 1703 rfl 3 rfl rfl ?_
    refine z_aload_n C dL_law_1703 1704 rfl 1 rfl rfl ?_
    refine z_iload C dL_law_1704 1706 rfl 5 rfl ?_
    refine z_iconst C dL_law_1706 1707 rfl 1 (by decide) ?_
    refine z_iadd C dL_law_1707 1708 rfl ?_
    obtain ⟨v1708, hv1708, hf⟩ := x_bind hf
    refine z_sld C S hv1708 dL_law_1708 1709 rfl ?_
    refine z_aload_n C dL_law_1709 1710 rfl 1 rfl rfl ?_
    refine z_iload C dL_law_1710 1712 rfl 5 rfl ?_
    refine z_iconst C dL_law_1712 1713 rfl 2 (by decide) ?_
    refine z_iadd C dL_law_1713 1714 rfl ?_
    obtain ⟨v1714, hv1714, hf⟩ := x_bind hf
    refine z_sld C S hv1714 dL_law_1714 1715 rfl ?_
    refine z_if_eq C dL_law_1715 1722 (by decide) 1718 rfl (fun hc => ?_) (fun hc => ?_)
    · have hf := (if_pos hc).symm.trans hf
      refine z_iconst C dL_law_1722 1723 rfl 0 (by decide) ?_
      refine z_aload_n C dL_law_1723 1724 rfl 1 rfl rfl ?_
      refine z_iload C dL_law_1724 1726 rfl 5 rfl ?_
      refine z_iconst C dL_law_1726 1727 rfl 3 (by decide) ?_
      refine z_iadd C dL_law_1727 1728 rfl ?_
      obtain ⟨v1728, hv1728, hf⟩ := x_bind hf
      refine z_sld C S hv1728 dL_law_1728 1729 rfl ?_
      obtain ⟨o1729, ho1729, hf⟩ := x_bind hf
      obtain ⟨w1729, hw1729, hf⟩ := x_bind hf
      refine z_callVi C dL_law_1729 1732 rfl ho1729 cl11.1 rfl (cX12_headc hw1729) kX12_head kvX12_head w2081 ⟨rfl, rfl⟩ ⟨Nat.le_of_ble_eq_true rfl, Nat.le_of_ble_eq_true rfl⟩ (kle hk 2 12 rfl rfl) rfl rfl (Nat.le_of_ble_eq_true rfl) ?_
      refine z_istore C dL_law_1732 1734 rfl rfl [(6, .int (w1729.1)), (5, .int (w1697.1)), (0, .ref (b)), (1, .ref (x)), (2, .ref (m)), (3, .ref (o)), (4, .int (i))] rfl ?_
      refine z_aload_n C dL_law_1734 1735 rfl 4 rfl rfl ?_
      obtain ⟨o1735, ho1735, hf⟩ := x_bind hf
      obtain ⟨w1735, hw1735, hf⟩ := x_bind hf
      refine z_callVi C dL_law_1735 1738 rfl ho1735 cl11.1 rfl (cX12_thrownc hw1735) kX12_thrown kvX12_thrown w1430 ⟨rfl, rfl⟩ ⟨Nat.le_of_ble_eq_true rfl, Nat.le_of_ble_eq_true rfl⟩ (kle hk 2 12 rfl rfl) rfl rfl (Nat.le_of_ble_eq_true rfl) ?_
      refine z_iload C dL_law_1738 1740 rfl 1 rfl ?_
      refine z_icmp_eq C dL_law_1740 1745 (by decide) 1743 rfl (fun hc => ?_) (fun hc => ?_)
      · have hf := (if_pos hc).symm.trans hf
        refine z_iload C dL_law_1745 1747 rfl 1 rfl ?_
        refine z_if_ne C dL_law_1747 1762 (by decide) 1750 rfl (fun hc => ?_) (fun hc => ?_)
        · have hf := (if_neg hc).symm.trans hf
          refine z_goto C dL_law_1762 2168 (by decide) ?_
          refine z_lv [2, 3, 4, 5, 6] (lv' := [(0, .ref (b)), (1, .ref (x)), (2, .ref (m)), (3, .ref (o)), (4, .int (i))]) rfl ?_
          have e9 := Option.some.inj hf
          subst e9
          exact kk (k.1 + 2, k.2 + 12) ⟨Nat.add_le_add_left (by decide) _, Nat.add_le_add_left (by decide) _⟩
        · have hf := (if_pos hc).symm.trans hf
          refine z_aload_n C dL_law_1750 1751 rfl 5 rfl rfl ?_
          refine z_iconst C dL_law_1751 1752 rfl 0 (by decide) ?_
          obtain ⟨v1752, hv1752, hf⟩ := x_bind hf
          refine z_laload C dL_law_1752 1753 rfl hv1752 ?_
          refine z_iload C dL_law_1753 1755 rfl 0 rfl ?_
          refine z_i2l C dL_law_1755 1756 rfl ?_
          refine z_lcmp C dL_law_1756 1757 rfl ?_
          refine z_if_eq C dL_law_1757 1762 (by decide) 1760 rfl (fun hc => ?_) (fun hc => ?_)
          · have hf := (if_pos hc).symm.trans hf
            refine z_goto C dL_law_1762 2168 (by decide) ?_
            refine z_lv [2, 3, 4, 5, 6] (lv' := [(0, .ref (b)), (1, .ref (x)), (2, .ref (m)), (3, .ref (o)), (4, .int (i))]) rfl ?_
            have e9 := Option.some.inj hf
            subst e9
            exact kk (k.1 + 2, k.2 + 12) ⟨Nat.add_le_add_left (by decide) _, Nat.add_le_add_left (by decide) _⟩
          · have hf := (if_neg hc).symm.trans hf
            cases hf
      · have hf := (if_neg hc).symm.trans hf
        cases hf
    · have hf := (if_neg hc).symm.trans hf
      refine z_iconst C dL_law_1718 1719 rfl 1 (by decide) ?_
      refine z_goto C dL_law_1719 1723 (by decide) ?_
      refine z_aload_n C dL_law_1723 1724 rfl 1 rfl rfl ?_
      refine z_iload C dL_law_1724 1726 rfl 5 rfl ?_
      refine z_iconst C dL_law_1726 1727 rfl 3 (by decide) ?_
      refine z_iadd C dL_law_1727 1728 rfl ?_
      obtain ⟨v1728, hv1728, hf⟩ := x_bind hf
      refine z_sld C S hv1728 dL_law_1728 1729 rfl ?_
      obtain ⟨o1729, ho1729, hf⟩ := x_bind hf
      obtain ⟨w1729, hw1729, hf⟩ := x_bind hf
      refine z_callVi C dL_law_1729 1732 rfl ho1729 cl11.1 rfl (cX12_headc hw1729) kX12_head kvX12_head w2081 ⟨rfl, rfl⟩ ⟨Nat.le_of_ble_eq_true rfl, Nat.le_of_ble_eq_true rfl⟩ (kle hk 2 12 rfl rfl) rfl rfl (Nat.le_of_ble_eq_true rfl) ?_
      refine z_istore C dL_law_1732 1734 rfl rfl [(6, .int (w1729.1)), (5, .int (w1697.1)), (0, .ref (b)), (1, .ref (x)), (2, .ref (m)), (3, .ref (o)), (4, .int (i))] rfl ?_
      refine z_aload_n C dL_law_1734 1735 rfl 4 rfl rfl ?_
      obtain ⟨o1735, ho1735, hf⟩ := x_bind hf
      obtain ⟨w1735, hw1735, hf⟩ := x_bind hf
      refine z_callVi C dL_law_1735 1738 rfl ho1735 cl11.1 rfl (cX12_thrownc hw1735) kX12_thrown kvX12_thrown w1430 ⟨rfl, rfl⟩ ⟨Nat.le_of_ble_eq_true rfl, Nat.le_of_ble_eq_true rfl⟩ (kle hk 2 12 rfl rfl) rfl rfl (Nat.le_of_ble_eq_true rfl) ?_
      refine z_iload C dL_law_1738 1740 rfl 1 rfl ?_
      refine z_icmp_eq C dL_law_1740 1745 (by decide) 1743 rfl (fun hc => ?_) (fun hc => ?_)
      · have hf := (if_pos hc).symm.trans hf
        refine z_iload C dL_law_1745 1747 rfl 1 rfl ?_
        refine z_if_ne C dL_law_1747 1762 (by decide) 1750 rfl (fun hc => ?_) (fun hc => ?_)
        · have hf := (if_neg hc).symm.trans hf
          refine z_goto C dL_law_1762 2168 (by decide) ?_
          refine z_lv [2, 3, 4, 5, 6] (lv' := [(0, .ref (b)), (1, .ref (x)), (2, .ref (m)), (3, .ref (o)), (4, .int (i))]) rfl ?_
          have e9 := Option.some.inj hf
          subst e9
          exact kk (k.1 + 2, k.2 + 12) ⟨Nat.add_le_add_left (by decide) _, Nat.add_le_add_left (by decide) _⟩
        · have hf := (if_pos hc).symm.trans hf
          refine z_aload_n C dL_law_1750 1751 rfl 5 rfl rfl ?_
          refine z_iconst C dL_law_1751 1752 rfl 0 (by decide) ?_
          obtain ⟨v1752, hv1752, hf⟩ := x_bind hf
          refine z_laload C dL_law_1752 1753 rfl hv1752 ?_
          refine z_iload C dL_law_1753 1755 rfl 0 rfl ?_
          refine z_i2l C dL_law_1755 1756 rfl ?_
          refine z_lcmp C dL_law_1756 1757 rfl ?_
          refine z_if_eq C dL_law_1757 1762 (by decide) 1760 rfl (fun hc => ?_) (fun hc => ?_)
          · have hf := (if_pos hc).symm.trans hf
            refine z_goto C dL_law_1762 2168 (by decide) ?_
            refine z_lv [2, 3, 4, 5, 6] (lv' := [(0, .ref (b)), (1, .ref (x)), (2, .ref (m)), (3, .ref (o)), (4, .int (i))]) rfl ?_
            have e9 := Option.some.inj hf
            subst e9
            exact kk (k.1 + 2, k.2 + 12) ⟨Nat.add_le_add_left (by decide) _, Nat.add_le_add_left (by decide) _⟩
          · have hf := (if_neg hc).symm.trans hf
            cases hf
      · have hf := (if_neg hc).symm.trans hf
        cases hf
  · have hf := (if_neg hc).symm.trans hf
    refine z_iconst C dL_law_1685 1686 rfl 1 (by decide) ?_
    refine z_goto C dL_law_1686 1690 (by decide) ?_
    refine z_aload_n C dL_law_1690 1691 rfl 0 rfl rfl ?_
    refine z_iload C dL_law_1691 1693 rfl 4 rfl ?_
    refine z_iconst C dL_law_1693 1694 rfl 3 (by decide) ?_
    refine z_iadd C dL_law_1694 1695 rfl ?_
    obtain ⟨v1695, hv1695, hf⟩ := x_bind hf
    refine z_sld C S hv1695 dL_law_1695 1696 rfl ?_
    refine z_aload_n C dL_law_1696 1697 rfl 3 rfl rfl ?_
    obtain ⟨w1697, hw1697, hf⟩ := x_bind hf
    refine e_cS C Ev dL_law_1697 1700 rfl (cL_headc hst hw1697) kwL_head w1324 ⟨rfl, rfl⟩ ⟨Nat.le_of_ble_eq_true rfl, Nat.le_of_ble_eq_true rfl⟩ (kle hk 2 12 rfl rfl) rfl rfl (Nat.le_of_ble_eq_true rfl) ?_
    refine z_istore C dL_law_1700 1702 rfl rfl [(5, .int (w1697.1)), (0, .ref (b)), (1, .ref (x)), (2, .ref (m)), (3, .ref (o)), (4, .int (i))] rfl ?_
    refine z_aload_n C dL_law_1702 1703 rfl 3 rfl rfl ?_
    refine z_aload_n C dL_law_1703 1704 rfl 1 rfl rfl ?_
    refine z_iload C dL_law_1704 1706 rfl 5 rfl ?_
    refine z_iconst C dL_law_1706 1707 rfl 1 (by decide) ?_
    refine z_iadd C dL_law_1707 1708 rfl ?_
    obtain ⟨v1708, hv1708, hf⟩ := x_bind hf
    refine z_sld C S hv1708 dL_law_1708 1709 rfl ?_
    refine z_aload_n C dL_law_1709 1710 rfl 1 rfl rfl ?_
    refine z_iload C dL_law_1710 1712 rfl 5 rfl ?_
    refine z_iconst C dL_law_1712 1713 rfl 2 (by decide) ?_
    refine z_iadd C dL_law_1713 1714 rfl ?_
    obtain ⟨v1714, hv1714, hf⟩ := x_bind hf
    refine z_sld C S hv1714 dL_law_1714 1715 rfl ?_
    refine z_if_eq C dL_law_1715 1722 (by decide) 1718 rfl (fun hc => ?_) (fun hc => ?_)
    · have hf := (if_pos hc).symm.trans hf
      refine z_iconst C dL_law_1722 1723 rfl 0 (by decide) ?_
      refine z_aload_n C dL_law_1723 1724 rfl 1 rfl rfl ?_
      refine z_iload C dL_law_1724 1726 rfl 5 rfl ?_
      refine z_iconst C dL_law_1726 1727 rfl 3 (by decide) ?_
      refine z_iadd C dL_law_1727 1728 rfl ?_
      obtain ⟨v1728, hv1728, hf⟩ := x_bind hf
      refine z_sld C S hv1728 dL_law_1728 1729 rfl ?_
      obtain ⟨o1729, ho1729, hf⟩ := x_bind hf
      obtain ⟨w1729, hw1729, hf⟩ := x_bind hf
      refine z_callVi C dL_law_1729 1732 rfl ho1729 cl11.1 rfl (cX12_headc hw1729) kX12_head kvX12_head w2081 ⟨rfl, rfl⟩ ⟨Nat.le_of_ble_eq_true rfl, Nat.le_of_ble_eq_true rfl⟩ (kle hk 2 12 rfl rfl) rfl rfl (Nat.le_of_ble_eq_true rfl) ?_
      refine z_istore C dL_law_1732 1734 rfl rfl [(6, .int (w1729.1)), (5, .int (w1697.1)), (0, .ref (b)), (1, .ref (x)), (2, .ref (m)), (3, .ref (o)), (4, .int (i))] rfl ?_
      refine z_aload_n C dL_law_1734 1735 rfl 4 rfl rfl ?_
      obtain ⟨o1735, ho1735, hf⟩ := x_bind hf
      obtain ⟨w1735, hw1735, hf⟩ := x_bind hf
      refine z_callVi C dL_law_1735 1738 rfl ho1735 cl11.1 rfl (cX12_thrownc hw1735) kX12_thrown kvX12_thrown w1430 ⟨rfl, rfl⟩ ⟨Nat.le_of_ble_eq_true rfl, Nat.le_of_ble_eq_true rfl⟩ (kle hk 2 12 rfl rfl) rfl rfl (Nat.le_of_ble_eq_true rfl) ?_
      refine z_iload C dL_law_1738 1740 rfl 1 rfl ?_
      refine z_icmp_eq C dL_law_1740 1745 (by decide) 1743 rfl (fun hc => ?_) (fun hc => ?_)
      · have hf := (if_pos hc).symm.trans hf
        refine z_iload C dL_law_1745 1747 rfl 1 rfl ?_
        refine z_if_ne C dL_law_1747 1762 (by decide) 1750 rfl (fun hc => ?_) (fun hc => ?_)
        · have hf := (if_neg hc).symm.trans hf
          refine z_goto C dL_law_1762 2168 (by decide) ?_
          refine z_lv [2, 3, 4, 5, 6] (lv' := [(0, .ref (b)), (1, .ref (x)), (2, .ref (m)), (3, .ref (o)), (4, .int (i))]) rfl ?_
          have e9 := Option.some.inj hf
          subst e9
          exact kk (k.1 + 2, k.2 + 12) ⟨Nat.add_le_add_left (by decide) _, Nat.add_le_add_left (by decide) _⟩
        · have hf := (if_pos hc).symm.trans hf
          refine z_aload_n C dL_law_1750 1751 rfl 5 rfl rfl ?_
          refine z_iconst C dL_law_1751 1752 rfl 0 (by decide) ?_
          obtain ⟨v1752, hv1752, hf⟩ := x_bind hf
          refine z_laload C dL_law_1752 1753 rfl hv1752 ?_
          refine z_iload C dL_law_1753 1755 rfl 0 rfl ?_
          refine z_i2l C dL_law_1755 1756 rfl ?_
          refine z_lcmp C dL_law_1756 1757 rfl ?_
          refine z_if_eq C dL_law_1757 1762 (by decide) 1760 rfl (fun hc => ?_) (fun hc => ?_)
          · have hf := (if_pos hc).symm.trans hf
            refine z_goto C dL_law_1762 2168 (by decide) ?_
            refine z_lv [2, 3, 4, 5, 6] (lv' := [(0, .ref (b)), (1, .ref (x)), (2, .ref (m)), (3, .ref (o)), (4, .int (i))]) rfl ?_
            have e9 := Option.some.inj hf
            subst e9
            exact kk (k.1 + 2, k.2 + 12) ⟨Nat.add_le_add_left (by decide) _, Nat.add_le_add_left (by decide) _⟩
          · have hf := (if_neg hc).symm.trans hf
            cases hf
      · have hf := (if_neg hc).symm.trans hf
        cases hf
    · have hf := (if_neg hc).symm.trans hf
      refine z_iconst C dL_law_1718 1719 rfl 1 (by decide) ?_
      refine z_goto C dL_law_1719 1723 (by decide) ?_
      refine z_aload_n C dL_law_1723 1724 rfl 1 rfl rfl ?_
      refine z_iload C dL_law_1724 1726 rfl 5 rfl ?_
      refine z_iconst C dL_law_1726 1727 rfl 3 (by decide) ?_
      refine z_iadd C dL_law_1727 1728 rfl ?_
      obtain ⟨v1728, hv1728, hf⟩ := x_bind hf
      refine z_sld C S hv1728 dL_law_1728 1729 rfl ?_
      obtain ⟨o1729, ho1729, hf⟩ := x_bind hf
      obtain ⟨w1729, hw1729, hf⟩ := x_bind hf
      refine z_callVi C dL_law_1729 1732 rfl ho1729 cl11.1 rfl (cX12_headc hw1729) kX12_head kvX12_head w2081 ⟨rfl, rfl⟩ ⟨Nat.le_of_ble_eq_true rfl, Nat.le_of_ble_eq_true rfl⟩ (kle hk 2 12 rfl rfl) rfl rfl (Nat.le_of_ble_eq_true rfl) ?_
      refine z_istore C dL_law_1732 1734 rfl rfl [(6, .int (w1729.1)), (5, .int (w1697.1)), (0, .ref (b)), (1, .ref (x)), (2, .ref (m)), (3, .ref (o)), (4, .int (i))] rfl ?_
      refine z_aload_n C dL_law_1734 1735 rfl 4 rfl rfl ?_
      obtain ⟨o1735, ho1735, hf⟩ := x_bind hf
      obtain ⟨w1735, hw1735, hf⟩ := x_bind hf
      refine z_callVi C dL_law_1735 1738 rfl ho1735 cl11.1 rfl (cX12_thrownc hw1735) kX12_thrown kvX12_thrown w1430 ⟨rfl, rfl⟩ ⟨Nat.le_of_ble_eq_true rfl, Nat.le_of_ble_eq_true rfl⟩ (kle hk 2 12 rfl rfl) rfl rfl (Nat.le_of_ble_eq_true rfl) ?_
      refine z_iload C dL_law_1738 1740 rfl 1 rfl ?_
      refine z_icmp_eq C dL_law_1740 1745 (by decide) 1743 rfl (fun hc => ?_) (fun hc => ?_)
      · have hf := (if_pos hc).symm.trans hf
        refine z_iload C dL_law_1745 1747 rfl 1 rfl ?_
        refine z_if_ne C dL_law_1747 1762 (by decide) 1750 rfl (fun hc => ?_) (fun hc => ?_)
        · have hf := (if_neg hc).symm.trans hf
          refine z_goto C dL_law_1762 2168 (by decide) ?_
          refine z_lv [2, 3, 4, 5, 6] (lv' := [(0, .ref (b)), (1, .ref (x)), (2, .ref (m)), (3, .ref (o)), (4, .int (i))]) rfl ?_
          have e9 := Option.some.inj hf
          subst e9
          exact kk (k.1 + 2, k.2 + 12) ⟨Nat.add_le_add_left (by decide) _, Nat.add_le_add_left (by decide) _⟩
        · have hf := (if_pos hc).symm.trans hf
          refine z_aload_n C dL_law_1750 1751 rfl 5 rfl rfl ?_
          refine z_iconst C dL_law_1751 1752 rfl 0 (by decide) ?_
          obtain ⟨v1752, hv1752, hf⟩ := x_bind hf
          refine z_laload C dL_law_1752 1753 rfl hv1752 ?_
          refine z_iload C dL_law_1753 1755 rfl 0 rfl ?_
          refine z_i2l C dL_law_1755 1756 rfl ?_
          refine z_lcmp C dL_law_1756 1757 rfl ?_
          refine z_if_eq C dL_law_1757 1762 (by decide) 1760 rfl (fun hc => ?_) (fun hc => ?_)
          · have hf := (if_pos hc).symm.trans hf
            refine z_goto C dL_law_1762 2168 (by decide) ?_
            refine z_lv [2, 3, 4, 5, 6] (lv' := [(0, .ref (b)), (1, .ref (x)), (2, .ref (m)), (3, .ref (o)), (4, .int (i))]) rfl ?_
            have e9 := Option.some.inj hf
            subst e9
            exact kk (k.1 + 2, k.2 + 12) ⟨Nat.add_le_add_left (by decide) _, Nat.add_le_add_left (by decide) _⟩
          · have hf := (if_neg hc).symm.trans hf
            cases hf
      · have hf := (if_neg hc).symm.trans hf
        cases hf
noncomputable def fK26 (sx : Nat → Int32) (L : Nat) (x m o : Nat) (i : Int32) (σ : St) : Option St :=
(sc sx L (i + 1)).bind fun v1771 =>
(fL_free σ x v1771 o).bind fun w1773 =>
(sc sx L (i + 1)).bind fun v1784 =>
(isO w1773.2 m 11).bind fun _ =>
(fX12_free w1773.2 m v1784).bind fun w1785 =>
(isO w1785.2 m 11).bind fun _ =>
(fX12_thrown w1785.2 m).bind fun w1791 =>
if w1791 = w1773.1 then
(if w1773.1 = 0 then
((aL w1785.2 o 0).bind fun v1808 =>
if (lg_cmp v1808 w1785.1.toInt64) = 0 then
(some w1785.2)
else
(none))
else
(some w1785.2))
else
(none)
set_option maxHeartbeats 4000000 in
set_option maxRecDepth 100000 in
theorem lK26 {X : xX} {adK adV : Nat → Nat} {b L : Nat} {sx : Nat → Int32} {x m o : Nat} {i : Int32} {σ σ' : St} {k : Nat × Nat} (C : Ok X code 7 RL room_1 (some .boolean)) (hst : (xl X).stackTraces = false) (Ev : xEnv adK adV (xA X) (xs X)) (S : Scr X b L sx) (hk : k.1 + 10 ≤ room_1.cells ∧ k.2 + 60 ≤ room_1.slots) (hf : fK26 sx L x m o i σ = some σ') (kk : ∀ k' : Nat × Nat, k'.1 ≤ k.1 + 10 ∧ k'.2 ≤ k.2 + 60 → Vz X k' σ' 2168 [(0, .ref (b)), (1, .ref (x)), (2, .ref (m)), (3, .ref (o)), (4, .int (i))] []) : Vz X k σ 1765 [(0, .ref (b)), (1, .ref (x)), (2, .ref (m)), (3, .ref (o)), (4, .int (i))] [] := by
  unfold fK26 at hf
  refine z_aload_n C dL_law_1765 1766 rfl 1 rfl rfl ?_
  refine z_aload_n C dL_law_1766 1767 rfl 0 rfl rfl ?_
  refine z_iload C dL_law_1767 1769 rfl 4 rfl ?_
  refine z_iconst C dL_law_1769 1770 rfl 1 (by decide) ?_
  refine z_iadd C dL_law_1770 1771 rfl ?_
  obtain ⟨v1771, hv1771, hf⟩ := x_bind hf
  refine z_sld C S hv1771 dL_law_1771 1772 rfl ?_
  refine z_aload_n C dL_law_1772 1773 rfl 3 rfl rfl ?_
  obtain ⟨w1773, hw1773, hf⟩ := x_bind hf
  refine e_cS C Ev dL_law_1773 1776 rfl (cL_freec hst hw1773) kwL_free w1357 ⟨rfl, rfl⟩ ⟨Nat.le_of_ble_eq_true rfl, Nat.le_of_ble_eq_true rfl⟩ (kle hk 1 6 rfl rfl) rfl rfl (Nat.le_of_ble_eq_true rfl) ?_
  refine z_istore C dL_law_1776 1778 rfl rfl [(5, .int (w1773.1)), (0, .ref (b)), (1, .ref (x)), (2, .ref (m)), (3, .ref (o)), (4, .int (i))] rfl ?_
  refine z_aload_n C dL_law_1778 1779 rfl 3 rfl rfl ?_
  refine z_aload_n C dL_law_1779 1780 rfl 1 rfl rfl ?_
  refine z_iload C dL_law_1780 1782 rfl 5 rfl ?_
  refine z_iconst C dL_law_1782 1783 rfl 1 (by decide) ?_
  refine z_iadd C dL_law_1783 1784 rfl ?_
  obtain ⟨v1784, hv1784, hf⟩ := x_bind hf
  refine z_sld C S hv1784 dL_law_1784 1785 rfl ?_
  obtain ⟨o1785, ho1785, hf⟩ := x_bind hf
  obtain ⟨w1785, hw1785, hf⟩ := x_bind hf
  refine z_callVi C dL_law_1785 1788 rfl ho1785 cl11.1 rfl (cX12_freec hw1785) kX12_free kvX12_free w1913 ⟨rfl, rfl⟩ ⟨Nat.le_of_ble_eq_true rfl, Nat.le_of_ble_eq_true rfl⟩ (kle hk 1 6 rfl rfl) rfl rfl (Nat.le_of_ble_eq_true rfl) ?_
  refine z_istore C dL_law_1788 1790 rfl rfl [(6, .int (w1785.1)), (5, .int (w1773.1)), (0, .ref (b)), (1, .ref (x)), (2, .ref (m)), (3, .ref (o)), (4, .int (i))] rfl ?_
  refine z_aload_n C dL_law_1790 1791 rfl 4 rfl rfl ?_
  obtain ⟨o1791, ho1791, hf⟩ := x_bind hf
  obtain ⟨w1791, hw1791, hf⟩ := x_bind hf
  refine z_callVi C dL_law_1791 1794 rfl ho1791 cl11.1 rfl (cX12_thrownc hw1791) kX12_thrown kvX12_thrown w1430 ⟨rfl, rfl⟩ ⟨Nat.le_of_ble_eq_true rfl, Nat.le_of_ble_eq_true rfl⟩ (kle hk 1 6 rfl rfl) rfl rfl (Nat.le_of_ble_eq_true rfl) ?_
  refine z_iload C dL_law_1794 1796 rfl 1 rfl ?_
  refine z_icmp_eq C dL_law_1796 1801 (by decide) 1799 rfl (fun hc => ?_) (fun hc => ?_)
  · have hf := (if_pos hc).symm.trans hf
    refine z_iload C dL_law_1801 1803 rfl 1 rfl ?_
    refine z_if_ne C dL_law_1803 1818 (by decide) 1806 rfl (fun hc => ?_) (fun hc => ?_)
    · have hf := (if_neg hc).symm.trans hf
      refine z_goto C dL_law_1818 2168 (by decide) ?_
      refine z_lv [2, 3, 4, 5, 6] (lv' := [(0, .ref (b)), (1, .ref (x)), (2, .ref (m)), (3, .ref (o)), (4, .int (i))]) rfl ?_
      have e9 := Option.some.inj hf
      subst e9
      exact kk (k.1 + 1, k.2 + 6) ⟨Nat.add_le_add_left (by decide) _, Nat.add_le_add_left (by decide) _⟩
    · have hf := (if_pos hc).symm.trans hf
      refine z_aload_n C dL_law_1806 1807 rfl 5 rfl rfl ?_
      refine z_iconst C dL_law_1807 1808 rfl 0 (by decide) ?_
      obtain ⟨v1808, hv1808, hf⟩ := x_bind hf
      refine z_laload C dL_law_1808 1809 rfl hv1808 ?_
      refine z_iload C dL_law_1809 1811 rfl 0 rfl ?_
      refine z_i2l C dL_law_1811 1812 rfl ?_
      refine z_lcmp C dL_law_1812 1813 rfl ?_
      refine z_if_eq C dL_law_1813 1818 (by decide) 1816 rfl (fun hc => ?_) (fun hc => ?_)
      · have hf := (if_pos hc).symm.trans hf
        refine z_goto C dL_law_1818 2168 (by decide) ?_
        refine z_lv [2, 3, 4, 5, 6] (lv' := [(0, .ref (b)), (1, .ref (x)), (2, .ref (m)), (3, .ref (o)), (4, .int (i))]) rfl ?_
        have e9 := Option.some.inj hf
        subst e9
        exact kk (k.1 + 1, k.2 + 6) ⟨Nat.add_le_add_left (by decide) _, Nat.add_le_add_left (by decide) _⟩
      · have hf := (if_neg hc).symm.trans hf
        cases hf
  · have hf := (if_neg hc).symm.trans hf
    cases hf
