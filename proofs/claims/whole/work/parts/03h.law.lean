theorem lk1 {κ cm : Ka9} (h : le9 (ad9 (ad9 κ (1, 6)) (1, 6)) cm) : le9 (ad9 κ (1, 6)) cm := ⟨Nat.le_trans (Nat.le_add_right _ _) h.1, Nat.le_trans (Nat.le_add_right _ _) h.2⟩
theorem lk0 {κ cm : Ka9} (h : le9 (ad9 (ad9 κ (1, 6)) (1, 6)) cm) : le9 κ cm := ⟨Nat.le_trans (Nat.le_add_right _ _) (lk1 h).1, Nat.le_trans (Nat.le_add_right _ _) (lk1 h).2⟩
def f_L_law_b1630 (z : Sh9) (L : Nat) (xs : Nat → Int32) (r23 : Nat → Nat → Nat → Int32 → Mem9 → Re9) (x1 : Nat) (x2 : Nat) (x3 : Nat) (x4 : Int32) (M : Mem9) : Re9 :=
  ((sx9 L xs (x4 + (1 : Int32))).bind fun v300 => (bi9 (f_L_restore z x1 v300 x3 M) fun v302 M301 => ((sx9 L xs (x4 + (1 : Int32))).bind fun v303 => (bi9 (iv9 z x2 3 (f_X3_restore z x2 v303 M301)) fun v305 M304 => (bi9 (iv9 z x2 3 (f_X3_thrown z x2  M304)) fun v307 M306 => (if v307 = v302 then (if v302 = 0 then ((ld9 z M306 13 x3 (0 : Int32)).bind fun v308 => (if (lg_cmp (Int32.toInt64 v308) (Int32.toInt64 v305)) = 0 then (r23 x1 x2 x3 (x4 + (5 : Int32)) M306) else (rz9 (0 : Int32) M306))) else (r23 x1 x2 x3 (x4 + (5 : Int32)) M306)) else (rz9 (0 : Int32) M306)))))))
set_option maxRecDepth 20000 in
set_option maxHeartbeats 4000000 in
theorem t_L_law_b1630 {z : Sh9} {sb L : Nat} {xs : Nat → Int32} {D : va_G} {ca : Nat → ClassId} {X : Cx9} {out : Out9 × Mem9} {cm κ : Ka9} (C : OK9 z (sb, L, xs, D, ca) X out 7 cm cL_law RL 11 2 []) (hk : le9 (ad9 (ad9 κ (1, 6)) (1, 6)) cm) (hco : le9 (co9 out.1) cm) {r23 : Nat → Nat → Nat → Int32 → Mem9 → Re9} (h23 : ∀ κ2 : Ka9, le9 κ2 (ad9 κ (1, 6)) → ∀ (x1 x2 x3 : Nat) (x4 : Int32) (M : Mem9), J9 z (sb, L, xs, D, ca) X out 7 23 [(0, .ref sb), (1, .ref x1), (2, .ref x2), (3, .ref x3), (4, .int x4)] [] M κ2 (r23 x1 x2 x3 x4 M)) (x1 : Nat) (x2 : Nat) (x3 : Nat) (x4 : Int32) (M : Mem9) : J9 z (sb, L, xs, D, ca) X out 7 1630 [(0, .ref sb), (1, .ref x1), (2, .ref x2), (3, .ref x3), (4, .int x4)] [] M κ (f_L_law_b1630 z L xs r23 x1 x2 x3 x4 M) := by
  refine j_aload_n (pc := 1630) C dL_law_1630 rfl ?_
  refine j_aload_n (pc := 1631) C dL_law_1631 rfl ?_
  refine j_iload (pc := 1632) C dL_law_1632 rfl ?_
  refine j_iconst (pc := 1634) C dL_law_1634 (v := 1) rfl ?_
  refine j_iadd (pc := 1635) C dL_law_1635 ?_
  refine j_sld (pc := 1636) C dL_law_1636 (fun v300 => ?_)
  refine j_aload_n (pc := 1637) C dL_law_1637 rfl ?_
  refine j_callWi (pc := 1638) C rfl dL_law_1638 lw_L_185 rfl (Nat.le_of_ble_eq_true rfl) (Nat.le_of_ble_eq_true rfl) (by decide) (lk1 hk) (fun l hl o ho => sp_L_restore hl ho) (fun v302 M301 => ?_)
  refine j_istore (pc := 1641) C dL_law_1641 (Nat.le_of_ble_eq_true rfl) (ls' := [(5, .int v302), (0, .ref sb), (1, .ref x1), (2, .ref x2), (3, .ref x3), (4, .int x4)]) rfl ?_
  refine j_aload_n (pc := 1643) C dL_law_1643 rfl ?_
  refine j_aload_n (pc := 1644) C dL_law_1644 rfl ?_
  refine j_iload (pc := 1645) C dL_law_1645 rfl ?_
  refine j_iconst (pc := 1647) C dL_law_1647 (v := 1) rfl ?_
  refine j_iadd (pc := 1648) C dL_law_1648 ?_
  refine j_sld (pc := 1649) C dL_law_1649 (fun v303 => ?_)
  refine j_callVi (pc := 1650) C rfl dL_law_1650 lv_L_187 rfl (Nat.le_of_ble_eq_true rfl) (Nat.le_of_ble_eq_true rfl) (by decide) (Or.inr hk) hco (fun l hl o ho => sp_X3_restore hl ho) (fun v305 M304 => ?_)
  refine j_istore (pc := 1653) C dL_law_1653 (Nat.le_of_ble_eq_true rfl) (ls' := [(6, .int v305), (5, .int v302), (0, .ref sb), (1, .ref x1), (2, .ref x2), (3, .ref x3), (4, .int x4)]) rfl ?_
  refine j_aload_n (pc := 1655) C dL_law_1655 rfl ?_
  refine j_callVi (pc := 1656) C rfl dL_law_1656 lv_L_102 rfl (Nat.le_of_ble_eq_true rfl) (Nat.le_of_ble_eq_true rfl) (by decide) (Or.inr hk) hco (fun l hl o ho => sp_X3_thrown hl ho) (fun v307 M306 => ?_)
  refine j_iload (pc := 1659) C dL_law_1659 rfl ?_
  refine j_icmp_eq (pc := 1661) C dL_law_1661 (tgt := 1666) (by decide) (fun hc311 => ?_) (fun hc311 => ?_)
  · refine j_iload (pc := 1666) C dL_law_1666 rfl ?_
    refine j_if_ne (pc := 1668) C dL_law_1668 (tgt := 1683) (by decide) (fun hc310 => ?_) (fun hc310 => ?_)
    · refine j_goto (pc := 1683) C dL_law_1683 (tgt := 1686) (by decide) ?_
      refine j_iinc (pc := 1686) C dL_law_1686 rfl (v := (x4 + (5 : Int32))) rfl (Nat.le_of_ble_eq_true rfl) (ls' := [(4, .int (x4 + (5 : Int32))), (6, .int v305), (5, .int v302), (0, .ref sb), (1, .ref x1), (2, .ref x2), (3, .ref x3)]) rfl ?_
      refine j_goto (pc := 1689) C dL_law_1689 (tgt := 23) (by decide) ?_
      refine j_loc [3, 4, 5, 6, 0] rfl ?_
      exact h23 (ad9 κ (1, 6)) ⟨Nat.le_refl _, Nat.le_refl _⟩ x1 x2 x3 (x4 + (5 : Int32)) M306
    · refine j_aload_n (pc := 1671) C dL_law_1671 rfl ?_
      refine j_iconst (pc := 1672) C dL_law_1672 (v := 0) rfl ?_
      refine j_laload (pc := 1673) C dL_law_1673 (fun v308 => ?_)
      refine j_iload (pc := 1674) C dL_law_1674 rfl ?_
      refine j_i2l (pc := 1676) C dL_law_1676 ?_
      refine j_lcmp (pc := 1677) C dL_law_1677 ?_
      refine j_if_eq (pc := 1678) C dL_law_1678 (tgt := 1683) (by decide) (fun hc309 => ?_) (fun hc309 => ?_)
      · refine j_goto (pc := 1683) C dL_law_1683 (tgt := 1686) (by decide) ?_
        refine j_iinc (pc := 1686) C dL_law_1686 rfl (v := (x4 + (5 : Int32))) rfl (Nat.le_of_ble_eq_true rfl) (ls' := [(4, .int (x4 + (5 : Int32))), (6, .int v305), (5, .int v302), (0, .ref sb), (1, .ref x1), (2, .ref x2), (3, .ref x3)]) rfl ?_
        refine j_goto (pc := 1689) C dL_law_1689 (tgt := 23) (by decide) ?_
        refine j_loc [3, 4, 5, 6, 0] rfl ?_
        exact h23 (ad9 κ (1, 6)) ⟨Nat.le_refl _, Nat.le_refl _⟩ x1 x2 x3 (x4 + (5 : Int32)) M306
      · refine j_iconst (pc := 1681) C dL_law_1681 (v := 0) rfl ?_
        exact j_zreturn (pc := 1682) C rfl dL_law_1682 (lk1 hk)
  · refine j_iconst (pc := 1664) C dL_law_1664 (v := 0) rfl ?_
    exact j_zreturn (pc := 1665) C rfl dL_law_1665 (lk1 hk)
def f_L_law_b1574 (z : Sh9) (L : Nat) (xs : Nat → Int32) (r23 : Nat → Nat → Nat → Int32 → Mem9 → Re9) (x1 : Nat) (x2 : Nat) (x3 : Nat) (x4 : Int32) (M : Mem9) : Re9 :=
  ((sx9 L xs (x4 + (1 : Int32))).bind fun v288 => (bi9 (f_L_save z x1 v288 x3 M) fun v290 M289 => ((sx9 L xs (x4 + (1 : Int32))).bind fun v291 => (bi9 (iv9 z x2 3 (f_X3_save z x2 v291 M289)) fun v293 M292 => (bi9 (iv9 z x2 3 (f_X3_thrown z x2  M292)) fun v295 M294 => (if v295 = v290 then (if v290 = 0 then ((ld9 z M294 13 x3 (0 : Int32)).bind fun v296 => (if (lg_cmp (Int32.toInt64 v296) (Int32.toInt64 v293)) = 0 then (r23 x1 x2 x3 (x4 + (5 : Int32)) M294) else (rz9 (0 : Int32) M294))) else (r23 x1 x2 x3 (x4 + (5 : Int32)) M294)) else (rz9 (0 : Int32) M294)))))))
set_option maxRecDepth 20000 in
set_option maxHeartbeats 4000000 in
theorem t_L_law_b1574 {z : Sh9} {sb L : Nat} {xs : Nat → Int32} {D : va_G} {ca : Nat → ClassId} {X : Cx9} {out : Out9 × Mem9} {cm κ : Ka9} (C : OK9 z (sb, L, xs, D, ca) X out 7 cm cL_law RL 11 2 []) (hk : le9 (ad9 (ad9 κ (1, 6)) (1, 6)) cm) (hco : le9 (co9 out.1) cm) {r23 : Nat → Nat → Nat → Int32 → Mem9 → Re9} (h23 : ∀ κ2 : Ka9, le9 κ2 (ad9 κ (1, 6)) → ∀ (x1 x2 x3 : Nat) (x4 : Int32) (M : Mem9), J9 z (sb, L, xs, D, ca) X out 7 23 [(0, .ref sb), (1, .ref x1), (2, .ref x2), (3, .ref x3), (4, .int x4)] [] M κ2 (r23 x1 x2 x3 x4 M)) (x1 : Nat) (x2 : Nat) (x3 : Nat) (x4 : Int32) (M : Mem9) : J9 z (sb, L, xs, D, ca) X out 7 1574 [(0, .ref sb), (1, .ref x1), (2, .ref x2), (3, .ref x3), (4, .int x4)] [] M κ (f_L_law_b1574 z L xs r23 x1 x2 x3 x4 M) := by
  refine j_aload_n (pc := 1574) C dL_law_1574 rfl ?_
  refine j_aload_n (pc := 1575) C dL_law_1575 rfl ?_
  refine j_iload (pc := 1576) C dL_law_1576 rfl ?_
  refine j_iconst (pc := 1578) C dL_law_1578 (v := 1) rfl ?_
  refine j_iadd (pc := 1579) C dL_law_1579 ?_
  refine j_sld (pc := 1580) C dL_law_1580 (fun v288 => ?_)
  refine j_aload_n (pc := 1581) C dL_law_1581 rfl ?_
  refine j_callWi (pc := 1582) C rfl dL_law_1582 lw_L_182 rfl (Nat.le_of_ble_eq_true rfl) (Nat.le_of_ble_eq_true rfl) (by decide) (lk1 hk) (fun l hl o ho => sp_L_save hl ho) (fun v290 M289 => ?_)
  refine j_istore (pc := 1585) C dL_law_1585 (Nat.le_of_ble_eq_true rfl) (ls' := [(5, .int v290), (0, .ref sb), (1, .ref x1), (2, .ref x2), (3, .ref x3), (4, .int x4)]) rfl ?_
  refine j_aload_n (pc := 1587) C dL_law_1587 rfl ?_
  refine j_aload_n (pc := 1588) C dL_law_1588 rfl ?_
  refine j_iload (pc := 1589) C dL_law_1589 rfl ?_
  refine j_iconst (pc := 1591) C dL_law_1591 (v := 1) rfl ?_
  refine j_iadd (pc := 1592) C dL_law_1592 ?_
  refine j_sld (pc := 1593) C dL_law_1593 (fun v291 => ?_)
  refine j_callVi (pc := 1594) C rfl dL_law_1594 lv_L_184 rfl (Nat.le_of_ble_eq_true rfl) (Nat.le_of_ble_eq_true rfl) (by decide) (Or.inr hk) hco (fun l hl o ho => sp_X3_save hl ho) (fun v293 M292 => ?_)
  refine j_istore (pc := 1597) C dL_law_1597 (Nat.le_of_ble_eq_true rfl) (ls' := [(6, .int v293), (5, .int v290), (0, .ref sb), (1, .ref x1), (2, .ref x2), (3, .ref x3), (4, .int x4)]) rfl ?_
  refine j_aload_n (pc := 1599) C dL_law_1599 rfl ?_
  refine j_callVi (pc := 1600) C rfl dL_law_1600 lv_L_102 rfl (Nat.le_of_ble_eq_true rfl) (Nat.le_of_ble_eq_true rfl) (by decide) (Or.inr hk) hco (fun l hl o ho => sp_X3_thrown hl ho) (fun v295 M294 => ?_)
  refine j_iload (pc := 1603) C dL_law_1603 rfl ?_
  refine j_icmp_eq (pc := 1605) C dL_law_1605 (tgt := 1610) (by decide) (fun hc299 => ?_) (fun hc299 => ?_)
  · refine j_iload (pc := 1610) C dL_law_1610 rfl ?_
    refine j_if_ne (pc := 1612) C dL_law_1612 (tgt := 1627) (by decide) (fun hc298 => ?_) (fun hc298 => ?_)
    · refine j_goto (pc := 1627) C dL_law_1627 (tgt := 1686) (by decide) ?_
      refine j_iinc (pc := 1686) C dL_law_1686 rfl (v := (x4 + (5 : Int32))) rfl (Nat.le_of_ble_eq_true rfl) (ls' := [(4, .int (x4 + (5 : Int32))), (6, .int v293), (5, .int v290), (0, .ref sb), (1, .ref x1), (2, .ref x2), (3, .ref x3)]) rfl ?_
      refine j_goto (pc := 1689) C dL_law_1689 (tgt := 23) (by decide) ?_
      refine j_loc [3, 4, 5, 6, 0] rfl ?_
      exact h23 (ad9 κ (1, 6)) ⟨Nat.le_refl _, Nat.le_refl _⟩ x1 x2 x3 (x4 + (5 : Int32)) M294
    · refine j_aload_n (pc := 1615) C dL_law_1615 rfl ?_
      refine j_iconst (pc := 1616) C dL_law_1616 (v := 0) rfl ?_
      refine j_laload (pc := 1617) C dL_law_1617 (fun v296 => ?_)
      refine j_iload (pc := 1618) C dL_law_1618 rfl ?_
      refine j_i2l (pc := 1620) C dL_law_1620 ?_
      refine j_lcmp (pc := 1621) C dL_law_1621 ?_
      refine j_if_eq (pc := 1622) C dL_law_1622 (tgt := 1627) (by decide) (fun hc297 => ?_) (fun hc297 => ?_)
      · refine j_goto (pc := 1627) C dL_law_1627 (tgt := 1686) (by decide) ?_
        refine j_iinc (pc := 1686) C dL_law_1686 rfl (v := (x4 + (5 : Int32))) rfl (Nat.le_of_ble_eq_true rfl) (ls' := [(4, .int (x4 + (5 : Int32))), (6, .int v293), (5, .int v290), (0, .ref sb), (1, .ref x1), (2, .ref x2), (3, .ref x3)]) rfl ?_
        refine j_goto (pc := 1689) C dL_law_1689 (tgt := 23) (by decide) ?_
        refine j_loc [3, 4, 5, 6, 0] rfl ?_
        exact h23 (ad9 κ (1, 6)) ⟨Nat.le_refl _, Nat.le_refl _⟩ x1 x2 x3 (x4 + (5 : Int32)) M294
      · refine j_iconst (pc := 1625) C dL_law_1625 (v := 0) rfl ?_
        exact j_zreturn (pc := 1626) C rfl dL_law_1626 (lk1 hk)
  · refine j_iconst (pc := 1608) C dL_law_1608 (v := 0) rfl ?_
    exact j_zreturn (pc := 1609) C rfl dL_law_1609 (lk1 hk)
def f_L_law_b1474 (z : Sh9) (L : Nat) (xs : Nat → Int32) (r23 : Nat → Nat → Nat → Int32 → Mem9 → Re9) (x1 : Nat) (x2 : Nat) (x3 : Nat) (x4 : Int32) (M : Mem9) : Re9 :=
  ((sx9 L xs (x4 + (1 : Int32))).bind fun v272 => ((sx9 L xs (x4 + (2 : Int32))).bind fun v273 => ((sx9 L xs (x4 + (3 : Int32))).bind fun v274 => (bi9 (f_L_simulate z x1 (((Int32.toInt64 v272) <<< (Int32.toInt64 (32 : Int32) &&& 63)) ||| ((Int32.toInt64 v273) &&& (4294967295 : Int64))) v274 x3 M) fun v276 M275 => ((sx9 L xs (x4 + (1 : Int32))).bind fun v277 => ((sx9 L xs (x4 + (2 : Int32))).bind fun v278 => ((sx9 L xs (x4 + (3 : Int32))).bind fun v279 => (bi9 (iv9 z x2 3 (f_X3_simulate z x2 (((Int32.toInt64 v277) <<< (Int32.toInt64 (32 : Int32) &&& 63)) ||| ((Int32.toInt64 v278) &&& (4294967295 : Int64))) v279 M275)) fun v281 M280 => (bi9 (iv9 z x2 3 (f_X3_thrown z x2  M280)) fun v283 M282 => (if v283 = v276 then (if v276 = 0 then ((ld9 z M282 13 x3 (0 : Int32)).bind fun v284 => (if (lg_cmp (Int32.toInt64 v284) (Int32.toInt64 v281)) = 0 then (r23 x1 x2 x3 (x4 + (5 : Int32)) M282) else (rz9 (0 : Int32) M282))) else (r23 x1 x2 x3 (x4 + (5 : Int32)) M282)) else (rz9 (0 : Int32) M282)))))))))))
set_option maxRecDepth 20000 in
set_option maxHeartbeats 4000000 in
theorem t_L_law_b1474 {z : Sh9} {sb L : Nat} {xs : Nat → Int32} {D : va_G} {ca : Nat → ClassId} {X : Cx9} {out : Out9 × Mem9} {cm κ : Ka9} (C : OK9 z (sb, L, xs, D, ca) X out 7 cm cL_law RL 11 2 []) (hk : le9 (ad9 (ad9 κ (1, 6)) (1, 6)) cm) (hco : le9 (co9 out.1) cm) {r23 : Nat → Nat → Nat → Int32 → Mem9 → Re9} (h23 : ∀ κ2 : Ka9, le9 κ2 (ad9 κ (1, 6)) → ∀ (x1 x2 x3 : Nat) (x4 : Int32) (M : Mem9), J9 z (sb, L, xs, D, ca) X out 7 23 [(0, .ref sb), (1, .ref x1), (2, .ref x2), (3, .ref x3), (4, .int x4)] [] M κ2 (r23 x1 x2 x3 x4 M)) (x1 : Nat) (x2 : Nat) (x3 : Nat) (x4 : Int32) (M : Mem9) : J9 z (sb, L, xs, D, ca) X out 7 1474 [(0, .ref sb), (1, .ref x1), (2, .ref x2), (3, .ref x3), (4, .int x4)] [] M κ (f_L_law_b1474 z L xs r23 x1 x2 x3 x4 M) := by
  refine j_aload_n (pc := 1474) C dL_law_1474 rfl ?_
  refine j_aload_n (pc := 1475) C dL_law_1475 rfl ?_
  refine j_iload (pc := 1476) C dL_law_1476 rfl ?_
  refine j_iconst (pc := 1478) C dL_law_1478 (v := 1) rfl ?_
  refine j_iadd (pc := 1479) C dL_law_1479 ?_
  refine j_sld (pc := 1480) C dL_law_1480 (fun v272 => ?_)
  refine j_i2l (pc := 1481) C dL_law_1481 ?_
  refine j_bipush (pc := 1482) C dL_law_1482 (v := 32) rfl ?_
  refine j_lshl (pc := 1484) C dL_law_1484 (v := ((Int32.toInt64 v272) <<< (Int32.toInt64 (32 : Int32) &&& 63))) rfl ?_
  refine j_aload_n (pc := 1485) C dL_law_1485 rfl ?_
  refine j_iload (pc := 1486) C dL_law_1486 rfl ?_
  refine j_iconst (pc := 1488) C dL_law_1488 (v := 2) rfl ?_
  refine j_iadd (pc := 1489) C dL_law_1489 ?_
  refine j_sld (pc := 1490) C dL_law_1490 (fun v273 => ?_)
  refine j_i2l (pc := 1491) C dL_law_1491 ?_
  refine j_ldc2 (pc := 1492) C dL_law_1492 (v := 4294967295) w9_1036 ?_
  refine j_land (pc := 1495) C dL_law_1495 ?_
  refine j_lor (pc := 1496) C dL_law_1496 ?_
  refine j_aload_n (pc := 1497) C dL_law_1497 rfl ?_
  refine j_iload (pc := 1498) C dL_law_1498 rfl ?_
  refine j_iconst (pc := 1500) C dL_law_1500 (v := 3) rfl ?_
  refine j_iadd (pc := 1501) C dL_law_1501 ?_
  refine j_sld (pc := 1502) C dL_law_1502 (fun v274 => ?_)
  refine j_aload_n (pc := 1503) C dL_law_1503 rfl ?_
  refine j_callWi (pc := 1504) C rfl dL_law_1504 lw_L_178 rfl (Nat.le_of_ble_eq_true rfl) (Nat.le_of_ble_eq_true rfl) (by decide) (lk1 hk) (fun l hl o ho => sp_L_simulate hl ho) (fun v276 M275 => ?_)
  refine j_istore (pc := 1507) C dL_law_1507 (Nat.le_of_ble_eq_true rfl) (ls' := [(5, .int v276), (0, .ref sb), (1, .ref x1), (2, .ref x2), (3, .ref x3), (4, .int x4)]) rfl ?_
  refine j_aload_n (pc := 1509) C dL_law_1509 rfl ?_
  refine j_aload_n (pc := 1510) C dL_law_1510 rfl ?_
  refine j_iload (pc := 1511) C dL_law_1511 rfl ?_
  refine j_iconst (pc := 1513) C dL_law_1513 (v := 1) rfl ?_
  refine j_iadd (pc := 1514) C dL_law_1514 ?_
  refine j_sld (pc := 1515) C dL_law_1515 (fun v277 => ?_)
  refine j_i2l (pc := 1516) C dL_law_1516 ?_
  refine j_bipush (pc := 1517) C dL_law_1517 (v := 32) rfl ?_
  refine j_lshl (pc := 1519) C dL_law_1519 (v := ((Int32.toInt64 v277) <<< (Int32.toInt64 (32 : Int32) &&& 63))) rfl ?_
  refine j_aload_n (pc := 1520) C dL_law_1520 rfl ?_
  refine j_iload (pc := 1521) C dL_law_1521 rfl ?_
  refine j_iconst (pc := 1523) C dL_law_1523 (v := 2) rfl ?_
  refine j_iadd (pc := 1524) C dL_law_1524 ?_
  refine j_sld (pc := 1525) C dL_law_1525 (fun v278 => ?_)
  refine j_i2l (pc := 1526) C dL_law_1526 ?_
  refine j_ldc2 (pc := 1527) C dL_law_1527 (v := 4294967295) w9_1036 ?_
  refine j_land (pc := 1530) C dL_law_1530 ?_
  refine j_lor (pc := 1531) C dL_law_1531 ?_
  refine j_aload_n (pc := 1532) C dL_law_1532 rfl ?_
  refine j_iload (pc := 1533) C dL_law_1533 rfl ?_
  refine j_iconst (pc := 1535) C dL_law_1535 (v := 3) rfl ?_
  refine j_iadd (pc := 1536) C dL_law_1536 ?_
  refine j_sld (pc := 1537) C dL_law_1537 (fun v279 => ?_)
  refine j_callVi (pc := 1538) C rfl dL_law_1538 lv_L_181 rfl (Nat.le_of_ble_eq_true rfl) (Nat.le_of_ble_eq_true rfl) (by decide) (Or.inr hk) hco (fun l hl o ho => sp_X3_simulate hl ho) (fun v281 M280 => ?_)
  refine j_istore (pc := 1541) C dL_law_1541 (Nat.le_of_ble_eq_true rfl) (ls' := [(6, .int v281), (5, .int v276), (0, .ref sb), (1, .ref x1), (2, .ref x2), (3, .ref x3), (4, .int x4)]) rfl ?_
  refine j_aload_n (pc := 1543) C dL_law_1543 rfl ?_
  refine j_callVi (pc := 1544) C rfl dL_law_1544 lv_L_102 rfl (Nat.le_of_ble_eq_true rfl) (Nat.le_of_ble_eq_true rfl) (by decide) (Or.inr hk) hco (fun l hl o ho => sp_X3_thrown hl ho) (fun v283 M282 => ?_)
  refine j_iload (pc := 1547) C dL_law_1547 rfl ?_
  refine j_icmp_eq (pc := 1549) C dL_law_1549 (tgt := 1554) (by decide) (fun hc287 => ?_) (fun hc287 => ?_)
  · refine j_iload (pc := 1554) C dL_law_1554 rfl ?_
    refine j_if_ne (pc := 1556) C dL_law_1556 (tgt := 1571) (by decide) (fun hc286 => ?_) (fun hc286 => ?_)
    · refine j_goto (pc := 1571) C dL_law_1571 (tgt := 1686) (by decide) ?_
      refine j_iinc (pc := 1686) C dL_law_1686 rfl (v := (x4 + (5 : Int32))) rfl (Nat.le_of_ble_eq_true rfl) (ls' := [(4, .int (x4 + (5 : Int32))), (6, .int v281), (5, .int v276), (0, .ref sb), (1, .ref x1), (2, .ref x2), (3, .ref x3)]) rfl ?_
      refine j_goto (pc := 1689) C dL_law_1689 (tgt := 23) (by decide) ?_
      refine j_loc [3, 4, 5, 6, 0] rfl ?_
      exact h23 (ad9 κ (1, 6)) ⟨Nat.le_refl _, Nat.le_refl _⟩ x1 x2 x3 (x4 + (5 : Int32)) M282
    · refine j_aload_n (pc := 1559) C dL_law_1559 rfl ?_
      refine j_iconst (pc := 1560) C dL_law_1560 (v := 0) rfl ?_
      refine j_laload (pc := 1561) C dL_law_1561 (fun v284 => ?_)
      refine j_iload (pc := 1562) C dL_law_1562 rfl ?_
      refine j_i2l (pc := 1564) C dL_law_1564 ?_
      refine j_lcmp (pc := 1565) C dL_law_1565 ?_
      refine j_if_eq (pc := 1566) C dL_law_1566 (tgt := 1571) (by decide) (fun hc285 => ?_) (fun hc285 => ?_)
      · refine j_goto (pc := 1571) C dL_law_1571 (tgt := 1686) (by decide) ?_
        refine j_iinc (pc := 1686) C dL_law_1686 rfl (v := (x4 + (5 : Int32))) rfl (Nat.le_of_ble_eq_true rfl) (ls' := [(4, .int (x4 + (5 : Int32))), (6, .int v281), (5, .int v276), (0, .ref sb), (1, .ref x1), (2, .ref x2), (3, .ref x3)]) rfl ?_
        refine j_goto (pc := 1689) C dL_law_1689 (tgt := 23) (by decide) ?_
        refine j_loc [3, 4, 5, 6, 0] rfl ?_
        exact h23 (ad9 κ (1, 6)) ⟨Nat.le_refl _, Nat.le_refl _⟩ x1 x2 x3 (x4 + (5 : Int32)) M282
      · refine j_iconst (pc := 1569) C dL_law_1569 (v := 0) rfl ?_
        exact j_zreturn (pc := 1570) C rfl dL_law_1570 (lk1 hk)
  · refine j_iconst (pc := 1552) C dL_law_1552 (v := 0) rfl ?_
    exact j_zreturn (pc := 1553) C rfl dL_law_1553 (lk1 hk)
def f_L_law_b1374 (z : Sh9) (L : Nat) (xs : Nat → Int32) (r23 : Nat → Nat → Nat → Int32 → Mem9 → Re9) (x1 : Nat) (x2 : Nat) (x3 : Nat) (x4 : Int32) (M : Mem9) : Re9 :=
  ((sx9 L xs (x4 + (1 : Int32))).bind fun v256 => ((sx9 L xs (x4 + (2 : Int32))).bind fun v257 => ((sx9 L xs (x4 + (3 : Int32))).bind fun v258 => (bi9 (f_L_runScript z x1 v256 (((Int32.toInt64 v257) <<< (Int32.toInt64 (32 : Int32) &&& 63)) ||| ((Int32.toInt64 v258) &&& (4294967295 : Int64))) x3 M) fun v260 M259 => ((sx9 L xs (x4 + (1 : Int32))).bind fun v261 => ((sx9 L xs (x4 + (2 : Int32))).bind fun v262 => ((sx9 L xs (x4 + (3 : Int32))).bind fun v263 => (bi9 (iv9 z x2 3 (f_X3_runScript z x2 v261 (((Int32.toInt64 v262) <<< (Int32.toInt64 (32 : Int32) &&& 63)) ||| ((Int32.toInt64 v263) &&& (4294967295 : Int64))) M259)) fun v265 M264 => (bi9 (iv9 z x2 3 (f_X3_thrown z x2  M264)) fun v267 M266 => (if v267 = v260 then (if v260 = 0 then ((ld9 z M266 13 x3 (0 : Int32)).bind fun v268 => (if (lg_cmp (Int32.toInt64 v268) (Int32.toInt64 v265)) = 0 then (r23 x1 x2 x3 (x4 + (5 : Int32)) M266) else (rz9 (0 : Int32) M266))) else (r23 x1 x2 x3 (x4 + (5 : Int32)) M266)) else (rz9 (0 : Int32) M266)))))))))))
set_option maxRecDepth 20000 in
set_option maxHeartbeats 4000000 in
theorem t_L_law_b1374 {z : Sh9} {sb L : Nat} {xs : Nat → Int32} {D : va_G} {ca : Nat → ClassId} {X : Cx9} {out : Out9 × Mem9} {cm κ : Ka9} (C : OK9 z (sb, L, xs, D, ca) X out 7 cm cL_law RL 11 2 []) (hk : le9 (ad9 (ad9 κ (1, 6)) (1, 6)) cm) (hco : le9 (co9 out.1) cm) {r23 : Nat → Nat → Nat → Int32 → Mem9 → Re9} (h23 : ∀ κ2 : Ka9, le9 κ2 (ad9 κ (1, 6)) → ∀ (x1 x2 x3 : Nat) (x4 : Int32) (M : Mem9), J9 z (sb, L, xs, D, ca) X out 7 23 [(0, .ref sb), (1, .ref x1), (2, .ref x2), (3, .ref x3), (4, .int x4)] [] M κ2 (r23 x1 x2 x3 x4 M)) (x1 : Nat) (x2 : Nat) (x3 : Nat) (x4 : Int32) (M : Mem9) : J9 z (sb, L, xs, D, ca) X out 7 1374 [(0, .ref sb), (1, .ref x1), (2, .ref x2), (3, .ref x3), (4, .int x4)] [] M κ (f_L_law_b1374 z L xs r23 x1 x2 x3 x4 M) := by
  refine j_aload_n (pc := 1374) C dL_law_1374 rfl ?_
  refine j_aload_n (pc := 1375) C dL_law_1375 rfl ?_
  refine j_iload (pc := 1376) C dL_law_1376 rfl ?_
  refine j_iconst (pc := 1378) C dL_law_1378 (v := 1) rfl ?_
  refine j_iadd (pc := 1379) C dL_law_1379 ?_
  refine j_sld (pc := 1380) C dL_law_1380 (fun v256 => ?_)
  refine j_aload_n (pc := 1381) C dL_law_1381 rfl ?_
  refine j_iload (pc := 1382) C dL_law_1382 rfl ?_
  refine j_iconst (pc := 1384) C dL_law_1384 (v := 2) rfl ?_
  refine j_iadd (pc := 1385) C dL_law_1385 ?_
  refine j_sld (pc := 1386) C dL_law_1386 (fun v257 => ?_)
  refine j_i2l (pc := 1387) C dL_law_1387 ?_
  refine j_bipush (pc := 1388) C dL_law_1388 (v := 32) rfl ?_
  refine j_lshl (pc := 1390) C dL_law_1390 (v := ((Int32.toInt64 v257) <<< (Int32.toInt64 (32 : Int32) &&& 63))) rfl ?_
  refine j_aload_n (pc := 1391) C dL_law_1391 rfl ?_
  refine j_iload (pc := 1392) C dL_law_1392 rfl ?_
  refine j_iconst (pc := 1394) C dL_law_1394 (v := 3) rfl ?_
  refine j_iadd (pc := 1395) C dL_law_1395 ?_
  refine j_sld (pc := 1396) C dL_law_1396 (fun v258 => ?_)
  refine j_i2l (pc := 1397) C dL_law_1397 ?_
  refine j_ldc2 (pc := 1398) C dL_law_1398 (v := 4294967295) w9_1036 ?_
  refine j_land (pc := 1401) C dL_law_1401 ?_
  refine j_lor (pc := 1402) C dL_law_1402 ?_
  refine j_aload_n (pc := 1403) C dL_law_1403 rfl ?_
  refine j_callWi (pc := 1404) C rfl dL_law_1404 lw_L_174 rfl (Nat.le_of_ble_eq_true rfl) (Nat.le_of_ble_eq_true rfl) (by decide) (lk1 hk) (fun l hl o ho => sp_L_runScript hl ho) (fun v260 M259 => ?_)
  refine j_istore (pc := 1407) C dL_law_1407 (Nat.le_of_ble_eq_true rfl) (ls' := [(5, .int v260), (0, .ref sb), (1, .ref x1), (2, .ref x2), (3, .ref x3), (4, .int x4)]) rfl ?_
  refine j_aload_n (pc := 1409) C dL_law_1409 rfl ?_
  refine j_aload_n (pc := 1410) C dL_law_1410 rfl ?_
  refine j_iload (pc := 1411) C dL_law_1411 rfl ?_
  refine j_iconst (pc := 1413) C dL_law_1413 (v := 1) rfl ?_
  refine j_iadd (pc := 1414) C dL_law_1414 ?_
  refine j_sld (pc := 1415) C dL_law_1415 (fun v261 => ?_)
  refine j_aload_n (pc := 1416) C dL_law_1416 rfl ?_
  refine j_iload (pc := 1417) C dL_law_1417 rfl ?_
  refine j_iconst (pc := 1419) C dL_law_1419 (v := 2) rfl ?_
  refine j_iadd (pc := 1420) C dL_law_1420 ?_
  refine j_sld (pc := 1421) C dL_law_1421 (fun v262 => ?_)
  refine j_i2l (pc := 1422) C dL_law_1422 ?_
  refine j_bipush (pc := 1423) C dL_law_1423 (v := 32) rfl ?_
  refine j_lshl (pc := 1425) C dL_law_1425 (v := ((Int32.toInt64 v262) <<< (Int32.toInt64 (32 : Int32) &&& 63))) rfl ?_
  refine j_aload_n (pc := 1426) C dL_law_1426 rfl ?_
  refine j_iload (pc := 1427) C dL_law_1427 rfl ?_
  refine j_iconst (pc := 1429) C dL_law_1429 (v := 3) rfl ?_
  refine j_iadd (pc := 1430) C dL_law_1430 ?_
  refine j_sld (pc := 1431) C dL_law_1431 (fun v263 => ?_)
  refine j_i2l (pc := 1432) C dL_law_1432 ?_
  refine j_ldc2 (pc := 1433) C dL_law_1433 (v := 4294967295) w9_1036 ?_
  refine j_land (pc := 1436) C dL_law_1436 ?_
  refine j_lor (pc := 1437) C dL_law_1437 ?_
  refine j_callVi (pc := 1438) C rfl dL_law_1438 lv_L_177 rfl (Nat.le_of_ble_eq_true rfl) (Nat.le_of_ble_eq_true rfl) (by decide) (Or.inr hk) hco (fun l hl o ho => sp_X3_runScript hl ho) (fun v265 M264 => ?_)
  refine j_istore (pc := 1441) C dL_law_1441 (Nat.le_of_ble_eq_true rfl) (ls' := [(6, .int v265), (5, .int v260), (0, .ref sb), (1, .ref x1), (2, .ref x2), (3, .ref x3), (4, .int x4)]) rfl ?_
  refine j_aload_n (pc := 1443) C dL_law_1443 rfl ?_
  refine j_callVi (pc := 1444) C rfl dL_law_1444 lv_L_102 rfl (Nat.le_of_ble_eq_true rfl) (Nat.le_of_ble_eq_true rfl) (by decide) (Or.inr hk) hco (fun l hl o ho => sp_X3_thrown hl ho) (fun v267 M266 => ?_)
  refine j_iload (pc := 1447) C dL_law_1447 rfl ?_
  refine j_icmp_eq (pc := 1449) C dL_law_1449 (tgt := 1454) (by decide) (fun hc271 => ?_) (fun hc271 => ?_)
  · refine j_iload (pc := 1454) C dL_law_1454 rfl ?_
    refine j_if_ne (pc := 1456) C dL_law_1456 (tgt := 1471) (by decide) (fun hc270 => ?_) (fun hc270 => ?_)
    · refine j_goto (pc := 1471) C dL_law_1471 (tgt := 1686) (by decide) ?_
      refine j_iinc (pc := 1686) C dL_law_1686 rfl (v := (x4 + (5 : Int32))) rfl (Nat.le_of_ble_eq_true rfl) (ls' := [(4, .int (x4 + (5 : Int32))), (6, .int v265), (5, .int v260), (0, .ref sb), (1, .ref x1), (2, .ref x2), (3, .ref x3)]) rfl ?_
      refine j_goto (pc := 1689) C dL_law_1689 (tgt := 23) (by decide) ?_
      refine j_loc [3, 4, 5, 6, 0] rfl ?_
      exact h23 (ad9 κ (1, 6)) ⟨Nat.le_refl _, Nat.le_refl _⟩ x1 x2 x3 (x4 + (5 : Int32)) M266
    · refine j_aload_n (pc := 1459) C dL_law_1459 rfl ?_
      refine j_iconst (pc := 1460) C dL_law_1460 (v := 0) rfl ?_
      refine j_laload (pc := 1461) C dL_law_1461 (fun v268 => ?_)
      refine j_iload (pc := 1462) C dL_law_1462 rfl ?_
      refine j_i2l (pc := 1464) C dL_law_1464 ?_
      refine j_lcmp (pc := 1465) C dL_law_1465 ?_
      refine j_if_eq (pc := 1466) C dL_law_1466 (tgt := 1471) (by decide) (fun hc269 => ?_) (fun hc269 => ?_)
      · refine j_goto (pc := 1471) C dL_law_1471 (tgt := 1686) (by decide) ?_
        refine j_iinc (pc := 1686) C dL_law_1686 rfl (v := (x4 + (5 : Int32))) rfl (Nat.le_of_ble_eq_true rfl) (ls' := [(4, .int (x4 + (5 : Int32))), (6, .int v265), (5, .int v260), (0, .ref sb), (1, .ref x1), (2, .ref x2), (3, .ref x3)]) rfl ?_
        refine j_goto (pc := 1689) C dL_law_1689 (tgt := 23) (by decide) ?_
        refine j_loc [3, 4, 5, 6, 0] rfl ?_
        exact h23 (ad9 κ (1, 6)) ⟨Nat.le_refl _, Nat.le_refl _⟩ x1 x2 x3 (x4 + (5 : Int32)) M266
      · refine j_iconst (pc := 1469) C dL_law_1469 (v := 0) rfl ?_
        exact j_zreturn (pc := 1470) C rfl dL_law_1470 (lk1 hk)
  · refine j_iconst (pc := 1452) C dL_law_1452 (v := 0) rfl ?_
    exact j_zreturn (pc := 1453) C rfl dL_law_1453 (lk1 hk)
def f_L_law_b1318 (z : Sh9) (L : Nat) (xs : Nat → Int32) (r23 : Nat → Nat → Nat → Int32 → Mem9 → Re9) (x1 : Nat) (x2 : Nat) (x3 : Nat) (x4 : Int32) (M : Mem9) : Re9 :=
  ((sx9 L xs (x4 + (1 : Int32))).bind fun v244 => (bi9 (f_L_hitsIn z x1 v244 x3 M) fun v246 M245 => ((sx9 L xs (x4 + (1 : Int32))).bind fun v247 => (bi9 (iv9 z x2 3 (f_X3_hitsIn z x2 v247 M245)) fun v249 M248 => (bi9 (iv9 z x2 3 (f_X3_thrown z x2  M248)) fun v251 M250 => (if v251 = v246 then (if v246 = 0 then ((ld9 z M250 13 x3 (0 : Int32)).bind fun v252 => (if (lg_cmp (Int32.toInt64 v252) (Int32.toInt64 v249)) = 0 then (r23 x1 x2 x3 (x4 + (5 : Int32)) M250) else (rz9 (0 : Int32) M250))) else (r23 x1 x2 x3 (x4 + (5 : Int32)) M250)) else (rz9 (0 : Int32) M250)))))))
set_option maxRecDepth 20000 in
set_option maxHeartbeats 4000000 in
theorem t_L_law_b1318 {z : Sh9} {sb L : Nat} {xs : Nat → Int32} {D : va_G} {ca : Nat → ClassId} {X : Cx9} {out : Out9 × Mem9} {cm κ : Ka9} (C : OK9 z (sb, L, xs, D, ca) X out 7 cm cL_law RL 11 2 []) (hk : le9 (ad9 (ad9 κ (1, 6)) (1, 6)) cm) (hco : le9 (co9 out.1) cm) {r23 : Nat → Nat → Nat → Int32 → Mem9 → Re9} (h23 : ∀ κ2 : Ka9, le9 κ2 (ad9 κ (1, 6)) → ∀ (x1 x2 x3 : Nat) (x4 : Int32) (M : Mem9), J9 z (sb, L, xs, D, ca) X out 7 23 [(0, .ref sb), (1, .ref x1), (2, .ref x2), (3, .ref x3), (4, .int x4)] [] M κ2 (r23 x1 x2 x3 x4 M)) (x1 : Nat) (x2 : Nat) (x3 : Nat) (x4 : Int32) (M : Mem9) : J9 z (sb, L, xs, D, ca) X out 7 1318 [(0, .ref sb), (1, .ref x1), (2, .ref x2), (3, .ref x3), (4, .int x4)] [] M κ (f_L_law_b1318 z L xs r23 x1 x2 x3 x4 M) := by
  refine j_aload_n (pc := 1318) C dL_law_1318 rfl ?_
  refine j_aload_n (pc := 1319) C dL_law_1319 rfl ?_
  refine j_iload (pc := 1320) C dL_law_1320 rfl ?_
  refine j_iconst (pc := 1322) C dL_law_1322 (v := 1) rfl ?_
  refine j_iadd (pc := 1323) C dL_law_1323 ?_
  refine j_sld (pc := 1324) C dL_law_1324 (fun v244 => ?_)
  refine j_aload_n (pc := 1325) C dL_law_1325 rfl ?_
  refine j_callWi (pc := 1326) C rfl dL_law_1326 lw_L_169 rfl (Nat.le_of_ble_eq_true rfl) (Nat.le_of_ble_eq_true rfl) (by decide) (lk1 hk) (fun l hl o ho => sp_L_hitsIn hl ho) (fun v246 M245 => ?_)
  refine j_istore (pc := 1329) C dL_law_1329 (Nat.le_of_ble_eq_true rfl) (ls' := [(5, .int v246), (0, .ref sb), (1, .ref x1), (2, .ref x2), (3, .ref x3), (4, .int x4)]) rfl ?_
  refine j_aload_n (pc := 1331) C dL_law_1331 rfl ?_
  refine j_aload_n (pc := 1332) C dL_law_1332 rfl ?_
  refine j_iload (pc := 1333) C dL_law_1333 rfl ?_
  refine j_iconst (pc := 1335) C dL_law_1335 (v := 1) rfl ?_
  refine j_iadd (pc := 1336) C dL_law_1336 ?_
  refine j_sld (pc := 1337) C dL_law_1337 (fun v247 => ?_)
  refine j_callVi (pc := 1338) C rfl dL_law_1338 lv_L_171 rfl (Nat.le_of_ble_eq_true rfl) (Nat.le_of_ble_eq_true rfl) (by decide) (Or.inr hk) hco (fun l hl o ho => sp_X3_hitsIn hl ho) (fun v249 M248 => ?_)
  refine j_istore (pc := 1341) C dL_law_1341 (Nat.le_of_ble_eq_true rfl) (ls' := [(6, .int v249), (5, .int v246), (0, .ref sb), (1, .ref x1), (2, .ref x2), (3, .ref x3), (4, .int x4)]) rfl ?_
  refine j_aload_n (pc := 1343) C dL_law_1343 rfl ?_
  refine j_callVi (pc := 1344) C rfl dL_law_1344 lv_L_102 rfl (Nat.le_of_ble_eq_true rfl) (Nat.le_of_ble_eq_true rfl) (by decide) (Or.inr hk) hco (fun l hl o ho => sp_X3_thrown hl ho) (fun v251 M250 => ?_)
  refine j_iload (pc := 1347) C dL_law_1347 rfl ?_
  refine j_icmp_eq (pc := 1349) C dL_law_1349 (tgt := 1354) (by decide) (fun hc255 => ?_) (fun hc255 => ?_)
  · refine j_iload (pc := 1354) C dL_law_1354 rfl ?_
    refine j_if_ne (pc := 1356) C dL_law_1356 (tgt := 1371) (by decide) (fun hc254 => ?_) (fun hc254 => ?_)
    · refine j_goto (pc := 1371) C dL_law_1371 (tgt := 1686) (by decide) ?_
      refine j_iinc (pc := 1686) C dL_law_1686 rfl (v := (x4 + (5 : Int32))) rfl (Nat.le_of_ble_eq_true rfl) (ls' := [(4, .int (x4 + (5 : Int32))), (6, .int v249), (5, .int v246), (0, .ref sb), (1, .ref x1), (2, .ref x2), (3, .ref x3)]) rfl ?_
      refine j_goto (pc := 1689) C dL_law_1689 (tgt := 23) (by decide) ?_
      refine j_loc [3, 4, 5, 6, 0] rfl ?_
      exact h23 (ad9 κ (1, 6)) ⟨Nat.le_refl _, Nat.le_refl _⟩ x1 x2 x3 (x4 + (5 : Int32)) M250
    · refine j_aload_n (pc := 1359) C dL_law_1359 rfl ?_
      refine j_iconst (pc := 1360) C dL_law_1360 (v := 0) rfl ?_
      refine j_laload (pc := 1361) C dL_law_1361 (fun v252 => ?_)
      refine j_iload (pc := 1362) C dL_law_1362 rfl ?_
      refine j_i2l (pc := 1364) C dL_law_1364 ?_
      refine j_lcmp (pc := 1365) C dL_law_1365 ?_
      refine j_if_eq (pc := 1366) C dL_law_1366 (tgt := 1371) (by decide) (fun hc253 => ?_) (fun hc253 => ?_)
      · refine j_goto (pc := 1371) C dL_law_1371 (tgt := 1686) (by decide) ?_
        refine j_iinc (pc := 1686) C dL_law_1686 rfl (v := (x4 + (5 : Int32))) rfl (Nat.le_of_ble_eq_true rfl) (ls' := [(4, .int (x4 + (5 : Int32))), (6, .int v249), (5, .int v246), (0, .ref sb), (1, .ref x1), (2, .ref x2), (3, .ref x3)]) rfl ?_
        refine j_goto (pc := 1689) C dL_law_1689 (tgt := 23) (by decide) ?_
        refine j_loc [3, 4, 5, 6, 0] rfl ?_
        exact h23 (ad9 κ (1, 6)) ⟨Nat.le_refl _, Nat.le_refl _⟩ x1 x2 x3 (x4 + (5 : Int32)) M250
      · refine j_iconst (pc := 1369) C dL_law_1369 (v := 0) rfl ?_
        exact j_zreturn (pc := 1370) C rfl dL_law_1370 (lk1 hk)
  · refine j_iconst (pc := 1352) C dL_law_1352 (v := 0) rfl ?_
    exact j_zreturn (pc := 1353) C rfl dL_law_1353 (lk1 hk)
def f_L_law_b1250 (z : Sh9) (L : Nat) (xs : Nat → Int32) (r23 : Nat → Nat → Nat → Int32 → Mem9 → Re9) (x1 : Nat) (x2 : Nat) (x3 : Nat) (x4 : Int32) (M : Mem9) : Re9 :=
  ((sx9 L xs (x4 + (1 : Int32))).bind fun v230 => ((sx9 L xs (x4 + (2 : Int32))).bind fun v231 => (bi9 (f_L_coming z x1 v230 v231 x3 M) fun v233 M232 => ((sx9 L xs (x4 + (1 : Int32))).bind fun v234 => ((sx9 L xs (x4 + (2 : Int32))).bind fun v235 => (bi9 (iv9 z x2 3 (f_X3_coming z x2 v234 v235 M232)) fun v237 M236 => (bi9 (iv9 z x2 3 (f_X3_thrown z x2  M236)) fun v239 M238 => (if v239 = v233 then (if v233 = 0 then ((ld9 z M238 13 x3 (0 : Int32)).bind fun v240 => (if (lg_cmp (Int32.toInt64 v240) (Int32.toInt64 v237)) = 0 then (r23 x1 x2 x3 (x4 + (5 : Int32)) M238) else (rz9 (0 : Int32) M238))) else (r23 x1 x2 x3 (x4 + (5 : Int32)) M238)) else (rz9 (0 : Int32) M238)))))))))
set_option maxRecDepth 20000 in
set_option maxHeartbeats 4000000 in
theorem t_L_law_b1250 {z : Sh9} {sb L : Nat} {xs : Nat → Int32} {D : va_G} {ca : Nat → ClassId} {X : Cx9} {out : Out9 × Mem9} {cm κ : Ka9} (C : OK9 z (sb, L, xs, D, ca) X out 7 cm cL_law RL 11 2 []) (hk : le9 (ad9 (ad9 κ (1, 6)) (1, 6)) cm) (hco : le9 (co9 out.1) cm) {r23 : Nat → Nat → Nat → Int32 → Mem9 → Re9} (h23 : ∀ κ2 : Ka9, le9 κ2 (ad9 κ (1, 6)) → ∀ (x1 x2 x3 : Nat) (x4 : Int32) (M : Mem9), J9 z (sb, L, xs, D, ca) X out 7 23 [(0, .ref sb), (1, .ref x1), (2, .ref x2), (3, .ref x3), (4, .int x4)] [] M κ2 (r23 x1 x2 x3 x4 M)) (x1 : Nat) (x2 : Nat) (x3 : Nat) (x4 : Int32) (M : Mem9) : J9 z (sb, L, xs, D, ca) X out 7 1250 [(0, .ref sb), (1, .ref x1), (2, .ref x2), (3, .ref x3), (4, .int x4)] [] M κ (f_L_law_b1250 z L xs r23 x1 x2 x3 x4 M) := by
  refine j_aload_n (pc := 1250) C dL_law_1250 rfl ?_
  refine j_aload_n (pc := 1251) C dL_law_1251 rfl ?_
  refine j_iload (pc := 1252) C dL_law_1252 rfl ?_
  refine j_iconst (pc := 1254) C dL_law_1254 (v := 1) rfl ?_
  refine j_iadd (pc := 1255) C dL_law_1255 ?_
  refine j_sld (pc := 1256) C dL_law_1256 (fun v230 => ?_)
  refine j_aload_n (pc := 1257) C dL_law_1257 rfl ?_
  refine j_iload (pc := 1258) C dL_law_1258 rfl ?_
  refine j_iconst (pc := 1260) C dL_law_1260 (v := 2) rfl ?_
  refine j_iadd (pc := 1261) C dL_law_1261 ?_
  refine j_sld (pc := 1262) C dL_law_1262 (fun v231 => ?_)
  refine j_aload_n (pc := 1263) C dL_law_1263 rfl ?_
  refine j_callWi (pc := 1264) C rfl dL_law_1264 lw_L_166 rfl (Nat.le_of_ble_eq_true rfl) (Nat.le_of_ble_eq_true rfl) (by decide) (lk1 hk) (fun l hl o ho => sp_L_coming hl ho) (fun v233 M232 => ?_)
  refine j_istore (pc := 1267) C dL_law_1267 (Nat.le_of_ble_eq_true rfl) (ls' := [(5, .int v233), (0, .ref sb), (1, .ref x1), (2, .ref x2), (3, .ref x3), (4, .int x4)]) rfl ?_
  refine j_aload_n (pc := 1269) C dL_law_1269 rfl ?_
  refine j_aload_n (pc := 1270) C dL_law_1270 rfl ?_
  refine j_iload (pc := 1271) C dL_law_1271 rfl ?_
  refine j_iconst (pc := 1273) C dL_law_1273 (v := 1) rfl ?_
  refine j_iadd (pc := 1274) C dL_law_1274 ?_
  refine j_sld (pc := 1275) C dL_law_1275 (fun v234 => ?_)
  refine j_aload_n (pc := 1276) C dL_law_1276 rfl ?_
  refine j_iload (pc := 1277) C dL_law_1277 rfl ?_
  refine j_iconst (pc := 1279) C dL_law_1279 (v := 2) rfl ?_
  refine j_iadd (pc := 1280) C dL_law_1280 ?_
  refine j_sld (pc := 1281) C dL_law_1281 (fun v235 => ?_)
  refine j_callVi (pc := 1282) C rfl dL_law_1282 lv_L_168 rfl (Nat.le_of_ble_eq_true rfl) (Nat.le_of_ble_eq_true rfl) (by decide) (Or.inr hk) hco (fun l hl o ho => sp_X3_coming hl ho) (fun v237 M236 => ?_)
  refine j_istore (pc := 1285) C dL_law_1285 (Nat.le_of_ble_eq_true rfl) (ls' := [(6, .int v237), (5, .int v233), (0, .ref sb), (1, .ref x1), (2, .ref x2), (3, .ref x3), (4, .int x4)]) rfl ?_
  refine j_aload_n (pc := 1287) C dL_law_1287 rfl ?_
  refine j_callVi (pc := 1288) C rfl dL_law_1288 lv_L_102 rfl (Nat.le_of_ble_eq_true rfl) (Nat.le_of_ble_eq_true rfl) (by decide) (Or.inr hk) hco (fun l hl o ho => sp_X3_thrown hl ho) (fun v239 M238 => ?_)
  refine j_iload (pc := 1291) C dL_law_1291 rfl ?_
  refine j_icmp_eq (pc := 1293) C dL_law_1293 (tgt := 1298) (by decide) (fun hc243 => ?_) (fun hc243 => ?_)
  · refine j_iload (pc := 1298) C dL_law_1298 rfl ?_
    refine j_if_ne (pc := 1300) C dL_law_1300 (tgt := 1315) (by decide) (fun hc242 => ?_) (fun hc242 => ?_)
    · refine j_goto (pc := 1315) C dL_law_1315 (tgt := 1686) (by decide) ?_
      refine j_iinc (pc := 1686) C dL_law_1686 rfl (v := (x4 + (5 : Int32))) rfl (Nat.le_of_ble_eq_true rfl) (ls' := [(4, .int (x4 + (5 : Int32))), (6, .int v237), (5, .int v233), (0, .ref sb), (1, .ref x1), (2, .ref x2), (3, .ref x3)]) rfl ?_
      refine j_goto (pc := 1689) C dL_law_1689 (tgt := 23) (by decide) ?_
      refine j_loc [3, 4, 5, 6, 0] rfl ?_
      exact h23 (ad9 κ (1, 6)) ⟨Nat.le_refl _, Nat.le_refl _⟩ x1 x2 x3 (x4 + (5 : Int32)) M238
    · refine j_aload_n (pc := 1303) C dL_law_1303 rfl ?_
      refine j_iconst (pc := 1304) C dL_law_1304 (v := 0) rfl ?_
      refine j_laload (pc := 1305) C dL_law_1305 (fun v240 => ?_)
      refine j_iload (pc := 1306) C dL_law_1306 rfl ?_
      refine j_i2l (pc := 1308) C dL_law_1308 ?_
      refine j_lcmp (pc := 1309) C dL_law_1309 ?_
      refine j_if_eq (pc := 1310) C dL_law_1310 (tgt := 1315) (by decide) (fun hc241 => ?_) (fun hc241 => ?_)
      · refine j_goto (pc := 1315) C dL_law_1315 (tgt := 1686) (by decide) ?_
        refine j_iinc (pc := 1686) C dL_law_1686 rfl (v := (x4 + (5 : Int32))) rfl (Nat.le_of_ble_eq_true rfl) (ls' := [(4, .int (x4 + (5 : Int32))), (6, .int v237), (5, .int v233), (0, .ref sb), (1, .ref x1), (2, .ref x2), (3, .ref x3)]) rfl ?_
        refine j_goto (pc := 1689) C dL_law_1689 (tgt := 23) (by decide) ?_
        refine j_loc [3, 4, 5, 6, 0] rfl ?_
        exact h23 (ad9 κ (1, 6)) ⟨Nat.le_refl _, Nat.le_refl _⟩ x1 x2 x3 (x4 + (5 : Int32)) M238
      · refine j_iconst (pc := 1313) C dL_law_1313 (v := 0) rfl ?_
        exact j_zreturn (pc := 1314) C rfl dL_law_1314 (lk1 hk)
  · refine j_iconst (pc := 1296) C dL_law_1296 (v := 0) rfl ?_
    exact j_zreturn (pc := 1297) C rfl dL_law_1297 (lk1 hk)
def f_L_law_b1194 (z : Sh9) (L : Nat) (xs : Nat → Int32) (r23 : Nat → Nat → Nat → Int32 → Mem9 → Re9) (x1 : Nat) (x2 : Nat) (x3 : Nat) (x4 : Int32) (M : Mem9) : Re9 :=
  ((sx9 L xs (x4 + (1 : Int32))).bind fun v218 => (bi9 (f_L_bestLane z x1 v218 x3 M) fun v220 M219 => ((sx9 L xs (x4 + (1 : Int32))).bind fun v221 => (bi9 (iv9 z x2 3 (f_X3_bestLane z x2 v221 M219)) fun v223 M222 => (bi9 (iv9 z x2 3 (f_X3_thrown z x2  M222)) fun v225 M224 => (if v225 = v220 then (if v220 = 0 then ((ld9 z M224 13 x3 (0 : Int32)).bind fun v226 => (if (lg_cmp (Int32.toInt64 v226) (Int32.toInt64 v223)) = 0 then (r23 x1 x2 x3 (x4 + (5 : Int32)) M224) else (rz9 (0 : Int32) M224))) else (r23 x1 x2 x3 (x4 + (5 : Int32)) M224)) else (rz9 (0 : Int32) M224)))))))
set_option maxRecDepth 20000 in
set_option maxHeartbeats 4000000 in
theorem t_L_law_b1194 {z : Sh9} {sb L : Nat} {xs : Nat → Int32} {D : va_G} {ca : Nat → ClassId} {X : Cx9} {out : Out9 × Mem9} {cm κ : Ka9} (C : OK9 z (sb, L, xs, D, ca) X out 7 cm cL_law RL 11 2 []) (hk : le9 (ad9 (ad9 κ (1, 6)) (1, 6)) cm) (hco : le9 (co9 out.1) cm) {r23 : Nat → Nat → Nat → Int32 → Mem9 → Re9} (h23 : ∀ κ2 : Ka9, le9 κ2 (ad9 κ (1, 6)) → ∀ (x1 x2 x3 : Nat) (x4 : Int32) (M : Mem9), J9 z (sb, L, xs, D, ca) X out 7 23 [(0, .ref sb), (1, .ref x1), (2, .ref x2), (3, .ref x3), (4, .int x4)] [] M κ2 (r23 x1 x2 x3 x4 M)) (x1 : Nat) (x2 : Nat) (x3 : Nat) (x4 : Int32) (M : Mem9) : J9 z (sb, L, xs, D, ca) X out 7 1194 [(0, .ref sb), (1, .ref x1), (2, .ref x2), (3, .ref x3), (4, .int x4)] [] M κ (f_L_law_b1194 z L xs r23 x1 x2 x3 x4 M) := by
  refine j_aload_n (pc := 1194) C dL_law_1194 rfl ?_
  refine j_aload_n (pc := 1195) C dL_law_1195 rfl ?_
  refine j_iload (pc := 1196) C dL_law_1196 rfl ?_
  refine j_iconst (pc := 1198) C dL_law_1198 (v := 1) rfl ?_
  refine j_iadd (pc := 1199) C dL_law_1199 ?_
  refine j_sld (pc := 1200) C dL_law_1200 (fun v218 => ?_)
  refine j_aload_n (pc := 1201) C dL_law_1201 rfl ?_
  refine j_callWi (pc := 1202) C rfl dL_law_1202 lw_L_163 rfl (Nat.le_of_ble_eq_true rfl) (Nat.le_of_ble_eq_true rfl) (by decide) (lk1 hk) (fun l hl o ho => sp_L_bestLane hl ho) (fun v220 M219 => ?_)
  refine j_istore (pc := 1205) C dL_law_1205 (Nat.le_of_ble_eq_true rfl) (ls' := [(5, .int v220), (0, .ref sb), (1, .ref x1), (2, .ref x2), (3, .ref x3), (4, .int x4)]) rfl ?_
  refine j_aload_n (pc := 1207) C dL_law_1207 rfl ?_
  refine j_aload_n (pc := 1208) C dL_law_1208 rfl ?_
  refine j_iload (pc := 1209) C dL_law_1209 rfl ?_
  refine j_iconst (pc := 1211) C dL_law_1211 (v := 1) rfl ?_
  refine j_iadd (pc := 1212) C dL_law_1212 ?_
  refine j_sld (pc := 1213) C dL_law_1213 (fun v221 => ?_)
  refine j_callVi (pc := 1214) C rfl dL_law_1214 lv_L_165 rfl (Nat.le_of_ble_eq_true rfl) (Nat.le_of_ble_eq_true rfl) (by decide) (Or.inr hk) hco (fun l hl o ho => sp_X3_bestLane hl ho) (fun v223 M222 => ?_)
  refine j_istore (pc := 1217) C dL_law_1217 (Nat.le_of_ble_eq_true rfl) (ls' := [(6, .int v223), (5, .int v220), (0, .ref sb), (1, .ref x1), (2, .ref x2), (3, .ref x3), (4, .int x4)]) rfl ?_
  refine j_aload_n (pc := 1219) C dL_law_1219 rfl ?_
  refine j_callVi (pc := 1220) C rfl dL_law_1220 lv_L_102 rfl (Nat.le_of_ble_eq_true rfl) (Nat.le_of_ble_eq_true rfl) (by decide) (Or.inr hk) hco (fun l hl o ho => sp_X3_thrown hl ho) (fun v225 M224 => ?_)
  refine j_iload (pc := 1223) C dL_law_1223 rfl ?_
  refine j_icmp_eq (pc := 1225) C dL_law_1225 (tgt := 1230) (by decide) (fun hc229 => ?_) (fun hc229 => ?_)
  · refine j_iload (pc := 1230) C dL_law_1230 rfl ?_
    refine j_if_ne (pc := 1232) C dL_law_1232 (tgt := 1247) (by decide) (fun hc228 => ?_) (fun hc228 => ?_)
    · refine j_goto (pc := 1247) C dL_law_1247 (tgt := 1686) (by decide) ?_
      refine j_iinc (pc := 1686) C dL_law_1686 rfl (v := (x4 + (5 : Int32))) rfl (Nat.le_of_ble_eq_true rfl) (ls' := [(4, .int (x4 + (5 : Int32))), (6, .int v223), (5, .int v220), (0, .ref sb), (1, .ref x1), (2, .ref x2), (3, .ref x3)]) rfl ?_
      refine j_goto (pc := 1689) C dL_law_1689 (tgt := 23) (by decide) ?_
      refine j_loc [3, 4, 5, 6, 0] rfl ?_
      exact h23 (ad9 κ (1, 6)) ⟨Nat.le_refl _, Nat.le_refl _⟩ x1 x2 x3 (x4 + (5 : Int32)) M224
    · refine j_aload_n (pc := 1235) C dL_law_1235 rfl ?_
      refine j_iconst (pc := 1236) C dL_law_1236 (v := 0) rfl ?_
      refine j_laload (pc := 1237) C dL_law_1237 (fun v226 => ?_)
      refine j_iload (pc := 1238) C dL_law_1238 rfl ?_
      refine j_i2l (pc := 1240) C dL_law_1240 ?_
      refine j_lcmp (pc := 1241) C dL_law_1241 ?_
      refine j_if_eq (pc := 1242) C dL_law_1242 (tgt := 1247) (by decide) (fun hc227 => ?_) (fun hc227 => ?_)
      · refine j_goto (pc := 1247) C dL_law_1247 (tgt := 1686) (by decide) ?_
        refine j_iinc (pc := 1686) C dL_law_1686 rfl (v := (x4 + (5 : Int32))) rfl (Nat.le_of_ble_eq_true rfl) (ls' := [(4, .int (x4 + (5 : Int32))), (6, .int v223), (5, .int v220), (0, .ref sb), (1, .ref x1), (2, .ref x2), (3, .ref x3)]) rfl ?_
        refine j_goto (pc := 1689) C dL_law_1689 (tgt := 23) (by decide) ?_
        refine j_loc [3, 4, 5, 6, 0] rfl ?_
        exact h23 (ad9 κ (1, 6)) ⟨Nat.le_refl _, Nat.le_refl _⟩ x1 x2 x3 (x4 + (5 : Int32)) M224
      · refine j_iconst (pc := 1245) C dL_law_1245 (v := 0) rfl ?_
        exact j_zreturn (pc := 1246) C rfl dL_law_1246 (lk1 hk)
  · refine j_iconst (pc := 1228) C dL_law_1228 (v := 0) rfl ?_
    exact j_zreturn (pc := 1229) C rfl dL_law_1229 (lk1 hk)
def f_L_law_b1126 (z : Sh9) (L : Nat) (xs : Nat → Int32) (r23 : Nat → Nat → Nat → Int32 → Mem9 → Re9) (x1 : Nat) (x2 : Nat) (x3 : Nat) (x4 : Int32) (M : Mem9) : Re9 :=
  ((sx9 L xs (x4 + (1 : Int32))).bind fun v204 => ((sx9 L xs (x4 + (2 : Int32))).bind fun v205 => (bi9 (f_L_throughIn z x1 v204 v205 x3 M) fun v207 M206 => ((sx9 L xs (x4 + (1 : Int32))).bind fun v208 => ((sx9 L xs (x4 + (2 : Int32))).bind fun v209 => (bi9 (iv9 z x2 3 (f_X3_throughIn z x2 v208 v209 M206)) fun v211 M210 => (bi9 (iv9 z x2 3 (f_X3_thrown z x2  M210)) fun v213 M212 => (if v213 = v207 then (if v207 = 0 then ((ld9 z M212 13 x3 (0 : Int32)).bind fun v214 => (if (lg_cmp (Int32.toInt64 v214) (Int32.toInt64 v211)) = 0 then (r23 x1 x2 x3 (x4 + (5 : Int32)) M212) else (rz9 (0 : Int32) M212))) else (r23 x1 x2 x3 (x4 + (5 : Int32)) M212)) else (rz9 (0 : Int32) M212)))))))))
set_option maxRecDepth 20000 in
set_option maxHeartbeats 4000000 in
theorem t_L_law_b1126 {z : Sh9} {sb L : Nat} {xs : Nat → Int32} {D : va_G} {ca : Nat → ClassId} {X : Cx9} {out : Out9 × Mem9} {cm κ : Ka9} (C : OK9 z (sb, L, xs, D, ca) X out 7 cm cL_law RL 11 2 []) (hk : le9 (ad9 (ad9 κ (1, 6)) (1, 6)) cm) (hco : le9 (co9 out.1) cm) {r23 : Nat → Nat → Nat → Int32 → Mem9 → Re9} (h23 : ∀ κ2 : Ka9, le9 κ2 (ad9 κ (1, 6)) → ∀ (x1 x2 x3 : Nat) (x4 : Int32) (M : Mem9), J9 z (sb, L, xs, D, ca) X out 7 23 [(0, .ref sb), (1, .ref x1), (2, .ref x2), (3, .ref x3), (4, .int x4)] [] M κ2 (r23 x1 x2 x3 x4 M)) (x1 : Nat) (x2 : Nat) (x3 : Nat) (x4 : Int32) (M : Mem9) : J9 z (sb, L, xs, D, ca) X out 7 1126 [(0, .ref sb), (1, .ref x1), (2, .ref x2), (3, .ref x3), (4, .int x4)] [] M κ (f_L_law_b1126 z L xs r23 x1 x2 x3 x4 M) := by
  refine j_aload_n (pc := 1126) C dL_law_1126 rfl ?_
  refine j_aload_n (pc := 1127) C dL_law_1127 rfl ?_
  refine j_iload (pc := 1128) C dL_law_1128 rfl ?_
  refine j_iconst (pc := 1130) C dL_law_1130 (v := 1) rfl ?_
  refine j_iadd (pc := 1131) C dL_law_1131 ?_
  refine j_sld (pc := 1132) C dL_law_1132 (fun v204 => ?_)
  refine j_aload_n (pc := 1133) C dL_law_1133 rfl ?_
  refine j_iload (pc := 1134) C dL_law_1134 rfl ?_
  refine j_iconst (pc := 1136) C dL_law_1136 (v := 2) rfl ?_
  refine j_iadd (pc := 1137) C dL_law_1137 ?_
  refine j_sld (pc := 1138) C dL_law_1138 (fun v205 => ?_)
  refine j_aload_n (pc := 1139) C dL_law_1139 rfl ?_
  refine j_callWi (pc := 1140) C rfl dL_law_1140 lw_L_160 rfl (Nat.le_of_ble_eq_true rfl) (Nat.le_of_ble_eq_true rfl) (by decide) (lk1 hk) (fun l hl o ho => sp_L_throughIn hl ho) (fun v207 M206 => ?_)
  refine j_istore (pc := 1143) C dL_law_1143 (Nat.le_of_ble_eq_true rfl) (ls' := [(5, .int v207), (0, .ref sb), (1, .ref x1), (2, .ref x2), (3, .ref x3), (4, .int x4)]) rfl ?_
  refine j_aload_n (pc := 1145) C dL_law_1145 rfl ?_
  refine j_aload_n (pc := 1146) C dL_law_1146 rfl ?_
  refine j_iload (pc := 1147) C dL_law_1147 rfl ?_
  refine j_iconst (pc := 1149) C dL_law_1149 (v := 1) rfl ?_
  refine j_iadd (pc := 1150) C dL_law_1150 ?_
  refine j_sld (pc := 1151) C dL_law_1151 (fun v208 => ?_)
  refine j_aload_n (pc := 1152) C dL_law_1152 rfl ?_
  refine j_iload (pc := 1153) C dL_law_1153 rfl ?_
  refine j_iconst (pc := 1155) C dL_law_1155 (v := 2) rfl ?_
  refine j_iadd (pc := 1156) C dL_law_1156 ?_
  refine j_sld (pc := 1157) C dL_law_1157 (fun v209 => ?_)
  refine j_callVi (pc := 1158) C rfl dL_law_1158 lv_L_162 rfl (Nat.le_of_ble_eq_true rfl) (Nat.le_of_ble_eq_true rfl) (by decide) (Or.inr hk) hco (fun l hl o ho => sp_X3_throughIn hl ho) (fun v211 M210 => ?_)
  refine j_istore (pc := 1161) C dL_law_1161 (Nat.le_of_ble_eq_true rfl) (ls' := [(6, .int v211), (5, .int v207), (0, .ref sb), (1, .ref x1), (2, .ref x2), (3, .ref x3), (4, .int x4)]) rfl ?_
  refine j_aload_n (pc := 1163) C dL_law_1163 rfl ?_
  refine j_callVi (pc := 1164) C rfl dL_law_1164 lv_L_102 rfl (Nat.le_of_ble_eq_true rfl) (Nat.le_of_ble_eq_true rfl) (by decide) (Or.inr hk) hco (fun l hl o ho => sp_X3_thrown hl ho) (fun v213 M212 => ?_)
  refine j_iload (pc := 1167) C dL_law_1167 rfl ?_
  refine j_icmp_eq (pc := 1169) C dL_law_1169 (tgt := 1174) (by decide) (fun hc217 => ?_) (fun hc217 => ?_)
  · refine j_iload (pc := 1174) C dL_law_1174 rfl ?_
    refine j_if_ne (pc := 1176) C dL_law_1176 (tgt := 1191) (by decide) (fun hc216 => ?_) (fun hc216 => ?_)
    · refine j_goto (pc := 1191) C dL_law_1191 (tgt := 1686) (by decide) ?_
      refine j_iinc (pc := 1686) C dL_law_1686 rfl (v := (x4 + (5 : Int32))) rfl (Nat.le_of_ble_eq_true rfl) (ls' := [(4, .int (x4 + (5 : Int32))), (6, .int v211), (5, .int v207), (0, .ref sb), (1, .ref x1), (2, .ref x2), (3, .ref x3)]) rfl ?_
      refine j_goto (pc := 1689) C dL_law_1689 (tgt := 23) (by decide) ?_
      refine j_loc [3, 4, 5, 6, 0] rfl ?_
      exact h23 (ad9 κ (1, 6)) ⟨Nat.le_refl _, Nat.le_refl _⟩ x1 x2 x3 (x4 + (5 : Int32)) M212
    · refine j_aload_n (pc := 1179) C dL_law_1179 rfl ?_
      refine j_iconst (pc := 1180) C dL_law_1180 (v := 0) rfl ?_
      refine j_laload (pc := 1181) C dL_law_1181 (fun v214 => ?_)
      refine j_iload (pc := 1182) C dL_law_1182 rfl ?_
      refine j_i2l (pc := 1184) C dL_law_1184 ?_
      refine j_lcmp (pc := 1185) C dL_law_1185 ?_
      refine j_if_eq (pc := 1186) C dL_law_1186 (tgt := 1191) (by decide) (fun hc215 => ?_) (fun hc215 => ?_)
      · refine j_goto (pc := 1191) C dL_law_1191 (tgt := 1686) (by decide) ?_
        refine j_iinc (pc := 1686) C dL_law_1686 rfl (v := (x4 + (5 : Int32))) rfl (Nat.le_of_ble_eq_true rfl) (ls' := [(4, .int (x4 + (5 : Int32))), (6, .int v211), (5, .int v207), (0, .ref sb), (1, .ref x1), (2, .ref x2), (3, .ref x3)]) rfl ?_
        refine j_goto (pc := 1689) C dL_law_1689 (tgt := 23) (by decide) ?_
        refine j_loc [3, 4, 5, 6, 0] rfl ?_
        exact h23 (ad9 κ (1, 6)) ⟨Nat.le_refl _, Nat.le_refl _⟩ x1 x2 x3 (x4 + (5 : Int32)) M212
      · refine j_iconst (pc := 1189) C dL_law_1189 (v := 0) rfl ?_
        exact j_zreturn (pc := 1190) C rfl dL_law_1190 (lk1 hk)
  · refine j_iconst (pc := 1172) C dL_law_1172 (v := 0) rfl ?_
    exact j_zreturn (pc := 1173) C rfl dL_law_1173 (lk1 hk)
def f_L_law_b1070 (z : Sh9) (L : Nat) (xs : Nat → Int32) (r23 : Nat → Nat → Nat → Int32 → Mem9 → Re9) (x1 : Nat) (x2 : Nat) (x3 : Nat) (x4 : Int32) (M : Mem9) : Re9 :=
  ((sx9 L xs (x4 + (1 : Int32))).bind fun v192 => (bi9 (f_L_emptyIn z x1 v192 x3 M) fun v194 M193 => ((sx9 L xs (x4 + (1 : Int32))).bind fun v195 => (bi9 (iv9 z x2 3 (f_X3_emptyIn z x2 v195 M193)) fun v197 M196 => (bi9 (iv9 z x2 3 (f_X3_thrown z x2  M196)) fun v199 M198 => (if v199 = v194 then (if v194 = 0 then ((ld9 z M198 13 x3 (0 : Int32)).bind fun v200 => (if (lg_cmp (Int32.toInt64 v200) (Int32.toInt64 v197)) = 0 then (r23 x1 x2 x3 (x4 + (5 : Int32)) M198) else (rz9 (0 : Int32) M198))) else (r23 x1 x2 x3 (x4 + (5 : Int32)) M198)) else (rz9 (0 : Int32) M198)))))))
set_option maxRecDepth 20000 in
set_option maxHeartbeats 4000000 in
theorem t_L_law_b1070 {z : Sh9} {sb L : Nat} {xs : Nat → Int32} {D : va_G} {ca : Nat → ClassId} {X : Cx9} {out : Out9 × Mem9} {cm κ : Ka9} (C : OK9 z (sb, L, xs, D, ca) X out 7 cm cL_law RL 11 2 []) (hk : le9 (ad9 (ad9 κ (1, 6)) (1, 6)) cm) (hco : le9 (co9 out.1) cm) {r23 : Nat → Nat → Nat → Int32 → Mem9 → Re9} (h23 : ∀ κ2 : Ka9, le9 κ2 (ad9 κ (1, 6)) → ∀ (x1 x2 x3 : Nat) (x4 : Int32) (M : Mem9), J9 z (sb, L, xs, D, ca) X out 7 23 [(0, .ref sb), (1, .ref x1), (2, .ref x2), (3, .ref x3), (4, .int x4)] [] M κ2 (r23 x1 x2 x3 x4 M)) (x1 : Nat) (x2 : Nat) (x3 : Nat) (x4 : Int32) (M : Mem9) : J9 z (sb, L, xs, D, ca) X out 7 1070 [(0, .ref sb), (1, .ref x1), (2, .ref x2), (3, .ref x3), (4, .int x4)] [] M κ (f_L_law_b1070 z L xs r23 x1 x2 x3 x4 M) := by
  refine j_aload_n (pc := 1070) C dL_law_1070 rfl ?_
  refine j_aload_n (pc := 1071) C dL_law_1071 rfl ?_
  refine j_iload (pc := 1072) C dL_law_1072 rfl ?_
  refine j_iconst (pc := 1074) C dL_law_1074 (v := 1) rfl ?_
  refine j_iadd (pc := 1075) C dL_law_1075 ?_
  refine j_sld (pc := 1076) C dL_law_1076 (fun v192 => ?_)
  refine j_aload_n (pc := 1077) C dL_law_1077 rfl ?_
  refine j_callWi (pc := 1078) C rfl dL_law_1078 lw_L_157 rfl (Nat.le_of_ble_eq_true rfl) (Nat.le_of_ble_eq_true rfl) (by decide) (lk1 hk) (fun l hl o ho => sp_L_emptyIn hl ho) (fun v194 M193 => ?_)
  refine j_istore (pc := 1081) C dL_law_1081 (Nat.le_of_ble_eq_true rfl) (ls' := [(5, .int v194), (0, .ref sb), (1, .ref x1), (2, .ref x2), (3, .ref x3), (4, .int x4)]) rfl ?_
  refine j_aload_n (pc := 1083) C dL_law_1083 rfl ?_
  refine j_aload_n (pc := 1084) C dL_law_1084 rfl ?_
  refine j_iload (pc := 1085) C dL_law_1085 rfl ?_
  refine j_iconst (pc := 1087) C dL_law_1087 (v := 1) rfl ?_
  refine j_iadd (pc := 1088) C dL_law_1088 ?_
  refine j_sld (pc := 1089) C dL_law_1089 (fun v195 => ?_)
  refine j_callVi (pc := 1090) C rfl dL_law_1090 lv_L_159 rfl (Nat.le_of_ble_eq_true rfl) (Nat.le_of_ble_eq_true rfl) (by decide) (Or.inr hk) hco (fun l hl o ho => sp_X3_emptyIn hl ho) (fun v197 M196 => ?_)
  refine j_istore (pc := 1093) C dL_law_1093 (Nat.le_of_ble_eq_true rfl) (ls' := [(6, .int v197), (5, .int v194), (0, .ref sb), (1, .ref x1), (2, .ref x2), (3, .ref x3), (4, .int x4)]) rfl ?_
  refine j_aload_n (pc := 1095) C dL_law_1095 rfl ?_
  refine j_callVi (pc := 1096) C rfl dL_law_1096 lv_L_102 rfl (Nat.le_of_ble_eq_true rfl) (Nat.le_of_ble_eq_true rfl) (by decide) (Or.inr hk) hco (fun l hl o ho => sp_X3_thrown hl ho) (fun v199 M198 => ?_)
  refine j_iload (pc := 1099) C dL_law_1099 rfl ?_
  refine j_icmp_eq (pc := 1101) C dL_law_1101 (tgt := 1106) (by decide) (fun hc203 => ?_) (fun hc203 => ?_)
  · refine j_iload (pc := 1106) C dL_law_1106 rfl ?_
    refine j_if_ne (pc := 1108) C dL_law_1108 (tgt := 1123) (by decide) (fun hc202 => ?_) (fun hc202 => ?_)
    · refine j_goto (pc := 1123) C dL_law_1123 (tgt := 1686) (by decide) ?_
      refine j_iinc (pc := 1686) C dL_law_1686 rfl (v := (x4 + (5 : Int32))) rfl (Nat.le_of_ble_eq_true rfl) (ls' := [(4, .int (x4 + (5 : Int32))), (6, .int v197), (5, .int v194), (0, .ref sb), (1, .ref x1), (2, .ref x2), (3, .ref x3)]) rfl ?_
      refine j_goto (pc := 1689) C dL_law_1689 (tgt := 23) (by decide) ?_
      refine j_loc [3, 4, 5, 6, 0] rfl ?_
      exact h23 (ad9 κ (1, 6)) ⟨Nat.le_refl _, Nat.le_refl _⟩ x1 x2 x3 (x4 + (5 : Int32)) M198
    · refine j_aload_n (pc := 1111) C dL_law_1111 rfl ?_
      refine j_iconst (pc := 1112) C dL_law_1112 (v := 0) rfl ?_
      refine j_laload (pc := 1113) C dL_law_1113 (fun v200 => ?_)
      refine j_iload (pc := 1114) C dL_law_1114 rfl ?_
      refine j_i2l (pc := 1116) C dL_law_1116 ?_
      refine j_lcmp (pc := 1117) C dL_law_1117 ?_
      refine j_if_eq (pc := 1118) C dL_law_1118 (tgt := 1123) (by decide) (fun hc201 => ?_) (fun hc201 => ?_)
      · refine j_goto (pc := 1123) C dL_law_1123 (tgt := 1686) (by decide) ?_
        refine j_iinc (pc := 1686) C dL_law_1686 rfl (v := (x4 + (5 : Int32))) rfl (Nat.le_of_ble_eq_true rfl) (ls' := [(4, .int (x4 + (5 : Int32))), (6, .int v197), (5, .int v194), (0, .ref sb), (1, .ref x1), (2, .ref x2), (3, .ref x3)]) rfl ?_
        refine j_goto (pc := 1689) C dL_law_1689 (tgt := 23) (by decide) ?_
        refine j_loc [3, 4, 5, 6, 0] rfl ?_
        exact h23 (ad9 κ (1, 6)) ⟨Nat.le_refl _, Nat.le_refl _⟩ x1 x2 x3 (x4 + (5 : Int32)) M198
      · refine j_iconst (pc := 1121) C dL_law_1121 (v := 0) rfl ?_
        exact j_zreturn (pc := 1122) C rfl dL_law_1122 (lk1 hk)
  · refine j_iconst (pc := 1104) C dL_law_1104 (v := 0) rfl ?_
    exact j_zreturn (pc := 1105) C rfl dL_law_1105 (lk1 hk)
def f_L_law_b1026 (z : Sh9) (L : Nat) (xs : Nat → Int32) (r23 : Nat → Nat → Nat → Int32 → Mem9 → Re9) (x1 : Nat) (x2 : Nat) (x3 : Nat) (x4 : Int32) (M : Mem9) : Re9 :=
  (bi9 (f_L_undo z x1 x3 M) fun v183 M182 => (bi9 (iv9 z x2 3 (f_X3_undo z x2  M182)) fun v185 M184 => (bi9 (iv9 z x2 3 (f_X3_thrown z x2  M184)) fun v187 M186 => (if v187 = v183 then (if v183 = 0 then ((ld9 z M186 13 x3 (0 : Int32)).bind fun v188 => (if (lg_cmp (Int32.toInt64 v188) (Int32.toInt64 v185)) = 0 then (r23 x1 x2 x3 (x4 + (5 : Int32)) M186) else (rz9 (0 : Int32) M186))) else (r23 x1 x2 x3 (x4 + (5 : Int32)) M186)) else (rz9 (0 : Int32) M186)))))
set_option maxRecDepth 20000 in
set_option maxHeartbeats 4000000 in
theorem t_L_law_b1026 {z : Sh9} {sb L : Nat} {xs : Nat → Int32} {D : va_G} {ca : Nat → ClassId} {X : Cx9} {out : Out9 × Mem9} {cm κ : Ka9} (C : OK9 z (sb, L, xs, D, ca) X out 7 cm cL_law RL 11 2 []) (hk : le9 (ad9 (ad9 κ (1, 6)) (1, 6)) cm) (hco : le9 (co9 out.1) cm) {r23 : Nat → Nat → Nat → Int32 → Mem9 → Re9} (h23 : ∀ κ2 : Ka9, le9 κ2 (ad9 κ (1, 6)) → ∀ (x1 x2 x3 : Nat) (x4 : Int32) (M : Mem9), J9 z (sb, L, xs, D, ca) X out 7 23 [(0, .ref sb), (1, .ref x1), (2, .ref x2), (3, .ref x3), (4, .int x4)] [] M κ2 (r23 x1 x2 x3 x4 M)) (x1 : Nat) (x2 : Nat) (x3 : Nat) (x4 : Int32) (M : Mem9) : J9 z (sb, L, xs, D, ca) X out 7 1026 [(0, .ref sb), (1, .ref x1), (2, .ref x2), (3, .ref x3), (4, .int x4)] [] M κ (f_L_law_b1026 z L xs r23 x1 x2 x3 x4 M) := by
  refine j_aload_n (pc := 1026) C dL_law_1026 rfl ?_
  refine j_aload_n (pc := 1027) C dL_law_1027 rfl ?_
  refine j_callWi (pc := 1028) C rfl dL_law_1028 lw_L_154 rfl (Nat.le_of_ble_eq_true rfl) (Nat.le_of_ble_eq_true rfl) (by decide) (lk1 hk) (fun l hl o ho => sp_L_undo hl ho) (fun v183 M182 => ?_)
  refine j_istore (pc := 1031) C dL_law_1031 (Nat.le_of_ble_eq_true rfl) (ls' := [(5, .int v183), (0, .ref sb), (1, .ref x1), (2, .ref x2), (3, .ref x3), (4, .int x4)]) rfl ?_
  refine j_aload_n (pc := 1033) C dL_law_1033 rfl ?_
  refine j_callVi (pc := 1034) C rfl dL_law_1034 lv_L_156 rfl (Nat.le_of_ble_eq_true rfl) (Nat.le_of_ble_eq_true rfl) (by decide) (Or.inr hk) hco (fun l hl o ho => sp_X3_undo hl ho) (fun v185 M184 => ?_)
  refine j_istore (pc := 1037) C dL_law_1037 (Nat.le_of_ble_eq_true rfl) (ls' := [(6, .int v185), (5, .int v183), (0, .ref sb), (1, .ref x1), (2, .ref x2), (3, .ref x3), (4, .int x4)]) rfl ?_
  refine j_aload_n (pc := 1039) C dL_law_1039 rfl ?_
  refine j_callVi (pc := 1040) C rfl dL_law_1040 lv_L_102 rfl (Nat.le_of_ble_eq_true rfl) (Nat.le_of_ble_eq_true rfl) (by decide) (Or.inr hk) hco (fun l hl o ho => sp_X3_thrown hl ho) (fun v187 M186 => ?_)
  refine j_iload (pc := 1043) C dL_law_1043 rfl ?_
  refine j_icmp_eq (pc := 1045) C dL_law_1045 (tgt := 1050) (by decide) (fun hc191 => ?_) (fun hc191 => ?_)
  · refine j_iload (pc := 1050) C dL_law_1050 rfl ?_
    refine j_if_ne (pc := 1052) C dL_law_1052 (tgt := 1067) (by decide) (fun hc190 => ?_) (fun hc190 => ?_)
    · refine j_goto (pc := 1067) C dL_law_1067 (tgt := 1686) (by decide) ?_
      refine j_iinc (pc := 1686) C dL_law_1686 rfl (v := (x4 + (5 : Int32))) rfl (Nat.le_of_ble_eq_true rfl) (ls' := [(4, .int (x4 + (5 : Int32))), (6, .int v185), (5, .int v183), (0, .ref sb), (1, .ref x1), (2, .ref x2), (3, .ref x3)]) rfl ?_
      refine j_goto (pc := 1689) C dL_law_1689 (tgt := 23) (by decide) ?_
      refine j_loc [3, 4, 5, 6, 0] rfl ?_
      exact h23 (ad9 κ (1, 6)) ⟨Nat.le_refl _, Nat.le_refl _⟩ x1 x2 x3 (x4 + (5 : Int32)) M186
    · refine j_aload_n (pc := 1055) C dL_law_1055 rfl ?_
      refine j_iconst (pc := 1056) C dL_law_1056 (v := 0) rfl ?_
      refine j_laload (pc := 1057) C dL_law_1057 (fun v188 => ?_)
      refine j_iload (pc := 1058) C dL_law_1058 rfl ?_
      refine j_i2l (pc := 1060) C dL_law_1060 ?_
      refine j_lcmp (pc := 1061) C dL_law_1061 ?_
      refine j_if_eq (pc := 1062) C dL_law_1062 (tgt := 1067) (by decide) (fun hc189 => ?_) (fun hc189 => ?_)
      · refine j_goto (pc := 1067) C dL_law_1067 (tgt := 1686) (by decide) ?_
        refine j_iinc (pc := 1686) C dL_law_1686 rfl (v := (x4 + (5 : Int32))) rfl (Nat.le_of_ble_eq_true rfl) (ls' := [(4, .int (x4 + (5 : Int32))), (6, .int v185), (5, .int v183), (0, .ref sb), (1, .ref x1), (2, .ref x2), (3, .ref x3)]) rfl ?_
        refine j_goto (pc := 1689) C dL_law_1689 (tgt := 23) (by decide) ?_
        refine j_loc [3, 4, 5, 6, 0] rfl ?_
        exact h23 (ad9 κ (1, 6)) ⟨Nat.le_refl _, Nat.le_refl _⟩ x1 x2 x3 (x4 + (5 : Int32)) M186
      · refine j_iconst (pc := 1065) C dL_law_1065 (v := 0) rfl ?_
        exact j_zreturn (pc := 1066) C rfl dL_law_1066 (lk1 hk)
  · refine j_iconst (pc := 1048) C dL_law_1048 (v := 0) rfl ?_
    exact j_zreturn (pc := 1049) C rfl dL_law_1049 (lk1 hk)
def f_L_law_b958 (z : Sh9) (L : Nat) (xs : Nat → Int32) (r23 : Nat → Nat → Nat → Int32 → Mem9 → Re9) (x1 : Nat) (x2 : Nat) (x3 : Nat) (x4 : Int32) (M : Mem9) : Re9 :=
  ((sx9 L xs (x4 + (1 : Int32))).bind fun v168 => ((sx9 L xs (x4 + (2 : Int32))).bind fun v169 => (bi9 (f_L_set z x1 v168 v169 x3 M) fun v171 M170 => ((sx9 L xs (x4 + (1 : Int32))).bind fun v172 => ((sx9 L xs (x4 + (2 : Int32))).bind fun v173 => (bi9 (iv9 z x2 3 (f_X3_set z x2 v172 v173 M170)) fun v175 M174 => (bi9 (iv9 z x2 3 (f_X3_thrown z x2  M174)) fun v177 M176 => (if v177 = v171 then (if v171 = 0 then ((ld9 z M176 13 x3 (0 : Int32)).bind fun v178 => (if (lg_cmp (Int32.toInt64 v178) (Int32.toInt64 v175)) = 0 then (r23 x1 x2 x3 (x4 + (5 : Int32)) M176) else (rz9 (0 : Int32) M176))) else (r23 x1 x2 x3 (x4 + (5 : Int32)) M176)) else (rz9 (0 : Int32) M176)))))))))
set_option maxRecDepth 20000 in
set_option maxHeartbeats 4000000 in
theorem t_L_law_b958 {z : Sh9} {sb L : Nat} {xs : Nat → Int32} {D : va_G} {ca : Nat → ClassId} {X : Cx9} {out : Out9 × Mem9} {cm κ : Ka9} (C : OK9 z (sb, L, xs, D, ca) X out 7 cm cL_law RL 11 2 []) (hk : le9 (ad9 (ad9 κ (1, 6)) (1, 6)) cm) (hco : le9 (co9 out.1) cm) {r23 : Nat → Nat → Nat → Int32 → Mem9 → Re9} (h23 : ∀ κ2 : Ka9, le9 κ2 (ad9 κ (1, 6)) → ∀ (x1 x2 x3 : Nat) (x4 : Int32) (M : Mem9), J9 z (sb, L, xs, D, ca) X out 7 23 [(0, .ref sb), (1, .ref x1), (2, .ref x2), (3, .ref x3), (4, .int x4)] [] M κ2 (r23 x1 x2 x3 x4 M)) (x1 : Nat) (x2 : Nat) (x3 : Nat) (x4 : Int32) (M : Mem9) : J9 z (sb, L, xs, D, ca) X out 7 958 [(0, .ref sb), (1, .ref x1), (2, .ref x2), (3, .ref x3), (4, .int x4)] [] M κ (f_L_law_b958 z L xs r23 x1 x2 x3 x4 M) := by
  refine j_aload_n (pc := 958) C dL_law_958 rfl ?_
  refine j_aload_n (pc := 959) C dL_law_959 rfl ?_
  refine j_iload (pc := 960) C dL_law_960 rfl ?_
  refine j_iconst (pc := 962) C dL_law_962 (v := 1) rfl ?_
  refine j_iadd (pc := 963) C dL_law_963 ?_
  refine j_sld (pc := 964) C dL_law_964 (fun v168 => ?_)
  refine j_aload_n (pc := 965) C dL_law_965 rfl ?_
  refine j_iload (pc := 966) C dL_law_966 rfl ?_
  refine j_iconst (pc := 968) C dL_law_968 (v := 2) rfl ?_
  refine j_iadd (pc := 969) C dL_law_969 ?_
  refine j_sld (pc := 970) C dL_law_970 (fun v169 => ?_)
  refine j_aload_n (pc := 971) C dL_law_971 rfl ?_
  refine j_callWi (pc := 972) C rfl dL_law_972 lw_L_151 rfl (Nat.le_of_ble_eq_true rfl) (Nat.le_of_ble_eq_true rfl) (by decide) (lk1 hk) (fun l hl o ho => sp_L_set hl ho) (fun v171 M170 => ?_)
  refine j_istore (pc := 975) C dL_law_975 (Nat.le_of_ble_eq_true rfl) (ls' := [(5, .int v171), (0, .ref sb), (1, .ref x1), (2, .ref x2), (3, .ref x3), (4, .int x4)]) rfl ?_
  refine j_aload_n (pc := 977) C dL_law_977 rfl ?_
  refine j_aload_n (pc := 978) C dL_law_978 rfl ?_
  refine j_iload (pc := 979) C dL_law_979 rfl ?_
  refine j_iconst (pc := 981) C dL_law_981 (v := 1) rfl ?_
  refine j_iadd (pc := 982) C dL_law_982 ?_
  refine j_sld (pc := 983) C dL_law_983 (fun v172 => ?_)
  refine j_aload_n (pc := 984) C dL_law_984 rfl ?_
  refine j_iload (pc := 985) C dL_law_985 rfl ?_
  refine j_iconst (pc := 987) C dL_law_987 (v := 2) rfl ?_
  refine j_iadd (pc := 988) C dL_law_988 ?_
  refine j_sld (pc := 989) C dL_law_989 (fun v173 => ?_)
  refine j_callVi (pc := 990) C rfl dL_law_990 lv_L_153 rfl (Nat.le_of_ble_eq_true rfl) (Nat.le_of_ble_eq_true rfl) (by decide) (Or.inr hk) hco (fun l hl o ho => sp_X3_set hl ho) (fun v175 M174 => ?_)
  refine j_istore (pc := 993) C dL_law_993 (Nat.le_of_ble_eq_true rfl) (ls' := [(6, .int v175), (5, .int v171), (0, .ref sb), (1, .ref x1), (2, .ref x2), (3, .ref x3), (4, .int x4)]) rfl ?_
  refine j_aload_n (pc := 995) C dL_law_995 rfl ?_
  refine j_callVi (pc := 996) C rfl dL_law_996 lv_L_102 rfl (Nat.le_of_ble_eq_true rfl) (Nat.le_of_ble_eq_true rfl) (by decide) (Or.inr hk) hco (fun l hl o ho => sp_X3_thrown hl ho) (fun v177 M176 => ?_)
  refine j_iload (pc := 999) C dL_law_999 rfl ?_
  refine j_icmp_eq (pc := 1001) C dL_law_1001 (tgt := 1006) (by decide) (fun hc181 => ?_) (fun hc181 => ?_)
  · refine j_iload (pc := 1006) C dL_law_1006 rfl ?_
    refine j_if_ne (pc := 1008) C dL_law_1008 (tgt := 1023) (by decide) (fun hc180 => ?_) (fun hc180 => ?_)
    · refine j_goto (pc := 1023) C dL_law_1023 (tgt := 1686) (by decide) ?_
      refine j_iinc (pc := 1686) C dL_law_1686 rfl (v := (x4 + (5 : Int32))) rfl (Nat.le_of_ble_eq_true rfl) (ls' := [(4, .int (x4 + (5 : Int32))), (6, .int v175), (5, .int v171), (0, .ref sb), (1, .ref x1), (2, .ref x2), (3, .ref x3)]) rfl ?_
      refine j_goto (pc := 1689) C dL_law_1689 (tgt := 23) (by decide) ?_
      refine j_loc [3, 4, 5, 6, 0] rfl ?_
      exact h23 (ad9 κ (1, 6)) ⟨Nat.le_refl _, Nat.le_refl _⟩ x1 x2 x3 (x4 + (5 : Int32)) M176
    · refine j_aload_n (pc := 1011) C dL_law_1011 rfl ?_
      refine j_iconst (pc := 1012) C dL_law_1012 (v := 0) rfl ?_
      refine j_laload (pc := 1013) C dL_law_1013 (fun v178 => ?_)
      refine j_iload (pc := 1014) C dL_law_1014 rfl ?_
      refine j_i2l (pc := 1016) C dL_law_1016 ?_
      refine j_lcmp (pc := 1017) C dL_law_1017 ?_
      refine j_if_eq (pc := 1018) C dL_law_1018 (tgt := 1023) (by decide) (fun hc179 => ?_) (fun hc179 => ?_)
      · refine j_goto (pc := 1023) C dL_law_1023 (tgt := 1686) (by decide) ?_
        refine j_iinc (pc := 1686) C dL_law_1686 rfl (v := (x4 + (5 : Int32))) rfl (Nat.le_of_ble_eq_true rfl) (ls' := [(4, .int (x4 + (5 : Int32))), (6, .int v175), (5, .int v171), (0, .ref sb), (1, .ref x1), (2, .ref x2), (3, .ref x3)]) rfl ?_
        refine j_goto (pc := 1689) C dL_law_1689 (tgt := 23) (by decide) ?_
        refine j_loc [3, 4, 5, 6, 0] rfl ?_
        exact h23 (ad9 κ (1, 6)) ⟨Nat.le_refl _, Nat.le_refl _⟩ x1 x2 x3 (x4 + (5 : Int32)) M176
      · refine j_iconst (pc := 1021) C dL_law_1021 (v := 0) rfl ?_
        exact j_zreturn (pc := 1022) C rfl dL_law_1022 (lk1 hk)
  · refine j_iconst (pc := 1004) C dL_law_1004 (v := 0) rfl ?_
    exact j_zreturn (pc := 1005) C rfl dL_law_1005 (lk1 hk)
def f_L_law_b902 (z : Sh9) (L : Nat) (xs : Nat → Int32) (r23 : Nat → Nat → Nat → Int32 → Mem9 → Re9) (x1 : Nat) (x2 : Nat) (x3 : Nat) (x4 : Int32) (M : Mem9) : Re9 :=
  ((sx9 L xs (x4 + (1 : Int32))).bind fun v156 => (bi9 (f_L_run z x1 v156 x3 M) fun v158 M157 => ((sx9 L xs (x4 + (1 : Int32))).bind fun v159 => (bi9 (iv9 z x2 3 (f_X3_run z x2 v159 M157)) fun v161 M160 => (bi9 (iv9 z x2 3 (f_X3_thrown z x2  M160)) fun v163 M162 => (if v163 = v158 then (if v158 = 0 then ((ld9 z M162 13 x3 (0 : Int32)).bind fun v164 => (if (lg_cmp (Int32.toInt64 v164) (Int32.toInt64 v161)) = 0 then (r23 x1 x2 x3 (x4 + (5 : Int32)) M162) else (rz9 (0 : Int32) M162))) else (r23 x1 x2 x3 (x4 + (5 : Int32)) M162)) else (rz9 (0 : Int32) M162)))))))
set_option maxRecDepth 20000 in
set_option maxHeartbeats 4000000 in
theorem t_L_law_b902 {z : Sh9} {sb L : Nat} {xs : Nat → Int32} {D : va_G} {ca : Nat → ClassId} {X : Cx9} {out : Out9 × Mem9} {cm κ : Ka9} (C : OK9 z (sb, L, xs, D, ca) X out 7 cm cL_law RL 11 2 []) (hk : le9 (ad9 (ad9 κ (1, 6)) (1, 6)) cm) (hco : le9 (co9 out.1) cm) {r23 : Nat → Nat → Nat → Int32 → Mem9 → Re9} (h23 : ∀ κ2 : Ka9, le9 κ2 (ad9 κ (1, 6)) → ∀ (x1 x2 x3 : Nat) (x4 : Int32) (M : Mem9), J9 z (sb, L, xs, D, ca) X out 7 23 [(0, .ref sb), (1, .ref x1), (2, .ref x2), (3, .ref x3), (4, .int x4)] [] M κ2 (r23 x1 x2 x3 x4 M)) (x1 : Nat) (x2 : Nat) (x3 : Nat) (x4 : Int32) (M : Mem9) : J9 z (sb, L, xs, D, ca) X out 7 902 [(0, .ref sb), (1, .ref x1), (2, .ref x2), (3, .ref x3), (4, .int x4)] [] M κ (f_L_law_b902 z L xs r23 x1 x2 x3 x4 M) := by
  refine j_aload_n (pc := 902) C dL_law_902 rfl ?_
  refine j_aload_n (pc := 903) C dL_law_903 rfl ?_
  refine j_iload (pc := 904) C dL_law_904 rfl ?_
  refine j_iconst (pc := 906) C dL_law_906 (v := 1) rfl ?_
  refine j_iadd (pc := 907) C dL_law_907 ?_
  refine j_sld (pc := 908) C dL_law_908 (fun v156 => ?_)
  refine j_aload_n (pc := 909) C dL_law_909 rfl ?_
  refine j_callWi (pc := 910) C rfl dL_law_910 lw_L_148 rfl (Nat.le_of_ble_eq_true rfl) (Nat.le_of_ble_eq_true rfl) (by decide) (lk1 hk) (fun l hl o ho => sp_L_run hl ho) (fun v158 M157 => ?_)
  refine j_istore (pc := 913) C dL_law_913 (Nat.le_of_ble_eq_true rfl) (ls' := [(5, .int v158), (0, .ref sb), (1, .ref x1), (2, .ref x2), (3, .ref x3), (4, .int x4)]) rfl ?_
  refine j_aload_n (pc := 915) C dL_law_915 rfl ?_
  refine j_aload_n (pc := 916) C dL_law_916 rfl ?_
  refine j_iload (pc := 917) C dL_law_917 rfl ?_
  refine j_iconst (pc := 919) C dL_law_919 (v := 1) rfl ?_
  refine j_iadd (pc := 920) C dL_law_920 ?_
  refine j_sld (pc := 921) C dL_law_921 (fun v159 => ?_)
  refine j_callVi (pc := 922) C rfl dL_law_922 lv_L_150 rfl (Nat.le_of_ble_eq_true rfl) (Nat.le_of_ble_eq_true rfl) (by decide) (Or.inr hk) hco (fun l hl o ho => sp_X3_run hl ho) (fun v161 M160 => ?_)
  refine j_istore (pc := 925) C dL_law_925 (Nat.le_of_ble_eq_true rfl) (ls' := [(6, .int v161), (5, .int v158), (0, .ref sb), (1, .ref x1), (2, .ref x2), (3, .ref x3), (4, .int x4)]) rfl ?_
  refine j_aload_n (pc := 927) C dL_law_927 rfl ?_
  refine j_callVi (pc := 928) C rfl dL_law_928 lv_L_102 rfl (Nat.le_of_ble_eq_true rfl) (Nat.le_of_ble_eq_true rfl) (by decide) (Or.inr hk) hco (fun l hl o ho => sp_X3_thrown hl ho) (fun v163 M162 => ?_)
  refine j_iload (pc := 931) C dL_law_931 rfl ?_
  refine j_icmp_eq (pc := 933) C dL_law_933 (tgt := 938) (by decide) (fun hc167 => ?_) (fun hc167 => ?_)
  · refine j_iload (pc := 938) C dL_law_938 rfl ?_
    refine j_if_ne (pc := 940) C dL_law_940 (tgt := 955) (by decide) (fun hc166 => ?_) (fun hc166 => ?_)
    · refine j_goto (pc := 955) C dL_law_955 (tgt := 1686) (by decide) ?_
      refine j_iinc (pc := 1686) C dL_law_1686 rfl (v := (x4 + (5 : Int32))) rfl (Nat.le_of_ble_eq_true rfl) (ls' := [(4, .int (x4 + (5 : Int32))), (6, .int v161), (5, .int v158), (0, .ref sb), (1, .ref x1), (2, .ref x2), (3, .ref x3)]) rfl ?_
      refine j_goto (pc := 1689) C dL_law_1689 (tgt := 23) (by decide) ?_
      refine j_loc [3, 4, 5, 6, 0] rfl ?_
      exact h23 (ad9 κ (1, 6)) ⟨Nat.le_refl _, Nat.le_refl _⟩ x1 x2 x3 (x4 + (5 : Int32)) M162
    · refine j_aload_n (pc := 943) C dL_law_943 rfl ?_
      refine j_iconst (pc := 944) C dL_law_944 (v := 0) rfl ?_
      refine j_laload (pc := 945) C dL_law_945 (fun v164 => ?_)
      refine j_iload (pc := 946) C dL_law_946 rfl ?_
      refine j_i2l (pc := 948) C dL_law_948 ?_
      refine j_lcmp (pc := 949) C dL_law_949 ?_
      refine j_if_eq (pc := 950) C dL_law_950 (tgt := 955) (by decide) (fun hc165 => ?_) (fun hc165 => ?_)
      · refine j_goto (pc := 955) C dL_law_955 (tgt := 1686) (by decide) ?_
        refine j_iinc (pc := 1686) C dL_law_1686 rfl (v := (x4 + (5 : Int32))) rfl (Nat.le_of_ble_eq_true rfl) (ls' := [(4, .int (x4 + (5 : Int32))), (6, .int v161), (5, .int v158), (0, .ref sb), (1, .ref x1), (2, .ref x2), (3, .ref x3)]) rfl ?_
        refine j_goto (pc := 1689) C dL_law_1689 (tgt := 23) (by decide) ?_
        refine j_loc [3, 4, 5, 6, 0] rfl ?_
        exact h23 (ad9 κ (1, 6)) ⟨Nat.le_refl _, Nat.le_refl _⟩ x1 x2 x3 (x4 + (5 : Int32)) M162
      · refine j_iconst (pc := 953) C dL_law_953 (v := 0) rfl ?_
        exact j_zreturn (pc := 954) C rfl dL_law_954 (lk1 hk)
  · refine j_iconst (pc := 936) C dL_law_936 (v := 0) rfl ?_
    exact j_zreturn (pc := 937) C rfl dL_law_937 (lk1 hk)
def f_L_law_b846 (z : Sh9) (L : Nat) (xs : Nat → Int32) (r23 : Nat → Nat → Nat → Int32 → Mem9 → Re9) (x1 : Nat) (x2 : Nat) (x3 : Nat) (x4 : Int32) (M : Mem9) : Re9 :=
  ((sx9 L xs (x4 + (1 : Int32))).bind fun v144 => (bi9 (f_L_mend z x1 v144 x3 M) fun v146 M145 => ((sx9 L xs (x4 + (1 : Int32))).bind fun v147 => (bi9 (iv9 z x2 3 (f_X3_mend z x2 v147 M145)) fun v149 M148 => (bi9 (iv9 z x2 3 (f_X3_thrown z x2  M148)) fun v151 M150 => (if v151 = v146 then (if v146 = 0 then ((ld9 z M150 13 x3 (0 : Int32)).bind fun v152 => (if (lg_cmp (Int32.toInt64 v152) (Int32.toInt64 v149)) = 0 then (r23 x1 x2 x3 (x4 + (5 : Int32)) M150) else (rz9 (0 : Int32) M150))) else (r23 x1 x2 x3 (x4 + (5 : Int32)) M150)) else (rz9 (0 : Int32) M150)))))))
set_option maxRecDepth 20000 in
set_option maxHeartbeats 4000000 in
theorem t_L_law_b846 {z : Sh9} {sb L : Nat} {xs : Nat → Int32} {D : va_G} {ca : Nat → ClassId} {X : Cx9} {out : Out9 × Mem9} {cm κ : Ka9} (C : OK9 z (sb, L, xs, D, ca) X out 7 cm cL_law RL 11 2 []) (hk : le9 (ad9 (ad9 κ (1, 6)) (1, 6)) cm) (hco : le9 (co9 out.1) cm) {r23 : Nat → Nat → Nat → Int32 → Mem9 → Re9} (h23 : ∀ κ2 : Ka9, le9 κ2 (ad9 κ (1, 6)) → ∀ (x1 x2 x3 : Nat) (x4 : Int32) (M : Mem9), J9 z (sb, L, xs, D, ca) X out 7 23 [(0, .ref sb), (1, .ref x1), (2, .ref x2), (3, .ref x3), (4, .int x4)] [] M κ2 (r23 x1 x2 x3 x4 M)) (x1 : Nat) (x2 : Nat) (x3 : Nat) (x4 : Int32) (M : Mem9) : J9 z (sb, L, xs, D, ca) X out 7 846 [(0, .ref sb), (1, .ref x1), (2, .ref x2), (3, .ref x3), (4, .int x4)] [] M κ (f_L_law_b846 z L xs r23 x1 x2 x3 x4 M) := by
  refine j_aload_n (pc := 846) C dL_law_846 rfl ?_
  refine j_aload_n (pc := 847) C dL_law_847 rfl ?_
  refine j_iload (pc := 848) C dL_law_848 rfl ?_
  refine j_iconst (pc := 850) C dL_law_850 (v := 1) rfl ?_
  refine j_iadd (pc := 851) C dL_law_851 ?_
  refine j_sld (pc := 852) C dL_law_852 (fun v144 => ?_)
  refine j_aload_n (pc := 853) C dL_law_853 rfl ?_
  refine j_callWi (pc := 854) C rfl dL_law_854 lw_L_145 rfl (Nat.le_of_ble_eq_true rfl) (Nat.le_of_ble_eq_true rfl) (by decide) (lk1 hk) (fun l hl o ho => sp_L_mend hl ho) (fun v146 M145 => ?_)
  refine j_istore (pc := 857) C dL_law_857 (Nat.le_of_ble_eq_true rfl) (ls' := [(5, .int v146), (0, .ref sb), (1, .ref x1), (2, .ref x2), (3, .ref x3), (4, .int x4)]) rfl ?_
  refine j_aload_n (pc := 859) C dL_law_859 rfl ?_
  refine j_aload_n (pc := 860) C dL_law_860 rfl ?_
  refine j_iload (pc := 861) C dL_law_861 rfl ?_
  refine j_iconst (pc := 863) C dL_law_863 (v := 1) rfl ?_
  refine j_iadd (pc := 864) C dL_law_864 ?_
  refine j_sld (pc := 865) C dL_law_865 (fun v147 => ?_)
  refine j_callVi (pc := 866) C rfl dL_law_866 lv_L_147 rfl (Nat.le_of_ble_eq_true rfl) (Nat.le_of_ble_eq_true rfl) (by decide) (Or.inr hk) hco (fun l hl o ho => sp_X3_mend hl ho) (fun v149 M148 => ?_)
  refine j_istore (pc := 869) C dL_law_869 (Nat.le_of_ble_eq_true rfl) (ls' := [(6, .int v149), (5, .int v146), (0, .ref sb), (1, .ref x1), (2, .ref x2), (3, .ref x3), (4, .int x4)]) rfl ?_
  refine j_aload_n (pc := 871) C dL_law_871 rfl ?_
  refine j_callVi (pc := 872) C rfl dL_law_872 lv_L_102 rfl (Nat.le_of_ble_eq_true rfl) (Nat.le_of_ble_eq_true rfl) (by decide) (Or.inr hk) hco (fun l hl o ho => sp_X3_thrown hl ho) (fun v151 M150 => ?_)
  refine j_iload (pc := 875) C dL_law_875 rfl ?_
  refine j_icmp_eq (pc := 877) C dL_law_877 (tgt := 882) (by decide) (fun hc155 => ?_) (fun hc155 => ?_)
  · refine j_iload (pc := 882) C dL_law_882 rfl ?_
    refine j_if_ne (pc := 884) C dL_law_884 (tgt := 899) (by decide) (fun hc154 => ?_) (fun hc154 => ?_)
    · refine j_goto (pc := 899) C dL_law_899 (tgt := 1686) (by decide) ?_
      refine j_iinc (pc := 1686) C dL_law_1686 rfl (v := (x4 + (5 : Int32))) rfl (Nat.le_of_ble_eq_true rfl) (ls' := [(4, .int (x4 + (5 : Int32))), (6, .int v149), (5, .int v146), (0, .ref sb), (1, .ref x1), (2, .ref x2), (3, .ref x3)]) rfl ?_
      refine j_goto (pc := 1689) C dL_law_1689 (tgt := 23) (by decide) ?_
      refine j_loc [3, 4, 5, 6, 0] rfl ?_
      exact h23 (ad9 κ (1, 6)) ⟨Nat.le_refl _, Nat.le_refl _⟩ x1 x2 x3 (x4 + (5 : Int32)) M150
    · refine j_aload_n (pc := 887) C dL_law_887 rfl ?_
      refine j_iconst (pc := 888) C dL_law_888 (v := 0) rfl ?_
      refine j_laload (pc := 889) C dL_law_889 (fun v152 => ?_)
      refine j_iload (pc := 890) C dL_law_890 rfl ?_
      refine j_i2l (pc := 892) C dL_law_892 ?_
      refine j_lcmp (pc := 893) C dL_law_893 ?_
      refine j_if_eq (pc := 894) C dL_law_894 (tgt := 899) (by decide) (fun hc153 => ?_) (fun hc153 => ?_)
      · refine j_goto (pc := 899) C dL_law_899 (tgt := 1686) (by decide) ?_
        refine j_iinc (pc := 1686) C dL_law_1686 rfl (v := (x4 + (5 : Int32))) rfl (Nat.le_of_ble_eq_true rfl) (ls' := [(4, .int (x4 + (5 : Int32))), (6, .int v149), (5, .int v146), (0, .ref sb), (1, .ref x1), (2, .ref x2), (3, .ref x3)]) rfl ?_
        refine j_goto (pc := 1689) C dL_law_1689 (tgt := 23) (by decide) ?_
        refine j_loc [3, 4, 5, 6, 0] rfl ?_
        exact h23 (ad9 κ (1, 6)) ⟨Nat.le_refl _, Nat.le_refl _⟩ x1 x2 x3 (x4 + (5 : Int32)) M150
      · refine j_iconst (pc := 897) C dL_law_897 (v := 0) rfl ?_
        exact j_zreturn (pc := 898) C rfl dL_law_898 (lk1 hk)
  · refine j_iconst (pc := 880) C dL_law_880 (v := 0) rfl ?_
    exact j_zreturn (pc := 881) C rfl dL_law_881 (lk1 hk)
def f_L_law_b810 (z : Sh9) (L : Nat) (xs : Nat → Int32) (r23 : Nat → Nat → Nat → Int32 → Mem9 → Re9) (x1 : Nat) (x2 : Nat) (x3 : Nat) (x4 : Int32) (x5 : Int32) (s0 : Int32) (s1 : Int32) (s2 : Nat) (M : Mem9) : Re9 :=
  (bi9 (iv9 z s2 3 (f_X3_loop z s2 s1 s0 M)) fun v326 M325 => (bi9 (iv9 z x2 3 (f_X3_thrown z x2  M325)) fun v328 M327 => (if v328 = x5 then (if x5 = 0 then ((ld9 z M327 13 x3 (0 : Int32)).bind fun v329 => (if (lg_cmp (Int32.toInt64 v329) (Int32.toInt64 v326)) = 0 then (r23 x1 x2 x3 (x4 + (5 : Int32)) M327) else (rz9 (0 : Int32) M327))) else (r23 x1 x2 x3 (x4 + (5 : Int32)) M327)) else (rz9 (0 : Int32) M327))))
set_option maxRecDepth 20000 in
set_option maxHeartbeats 4000000 in
theorem t_L_law_b810 {z : Sh9} {sb L : Nat} {xs : Nat → Int32} {D : va_G} {ca : Nat → ClassId} {X : Cx9} {out : Out9 × Mem9} {cm κ : Ka9} (C : OK9 z (sb, L, xs, D, ca) X out 7 cm cL_law RL 11 2 []) (hk : le9 (ad9 (ad9 κ (1, 6)) (1, 6)) cm) (hco : le9 (co9 out.1) cm) {r23 : Nat → Nat → Nat → Int32 → Mem9 → Re9} (h23 : ∀ κ2 : Ka9, le9 κ2 (ad9 κ (1, 6)) → ∀ (x1 x2 x3 : Nat) (x4 : Int32) (M : Mem9), J9 z (sb, L, xs, D, ca) X out 7 23 [(0, .ref sb), (1, .ref x1), (2, .ref x2), (3, .ref x3), (4, .int x4)] [] M κ2 (r23 x1 x2 x3 x4 M)) (x1 : Nat) (x2 : Nat) (x3 : Nat) (x4 : Int32) (x5 : Int32) (s0 : Int32) (s1 : Int32) (s2 : Nat) (M : Mem9) : J9 z (sb, L, xs, D, ca) X out 7 810 [(0, .ref sb), (1, .ref x1), (2, .ref x2), (3, .ref x3), (4, .int x4), (5, .int x5)] [.int s0, .int s1, .ref s2] M (ad9 κ (1, 6)) (f_L_law_b810 z L xs r23 x1 x2 x3 x4 x5 s0 s1 s2 M) := by
  refine j_callVi (pc := 810) C rfl dL_law_810 lv_L_144 rfl (Nat.le_of_ble_eq_true rfl) (Nat.le_of_ble_eq_true rfl) (by decide) (Or.inr hk) hco (fun l hl o ho => sp_X3_loop hl ho) (fun v326 M325 => ?_)
  refine j_istore (pc := 813) C dL_law_813 (Nat.le_of_ble_eq_true rfl) (ls' := [(6, .int v326), (0, .ref sb), (1, .ref x1), (2, .ref x2), (3, .ref x3), (4, .int x4), (5, .int x5)]) rfl ?_
  refine j_aload_n (pc := 815) C dL_law_815 rfl ?_
  refine j_callVi (pc := 816) C rfl dL_law_816 lv_L_102 rfl (Nat.le_of_ble_eq_true rfl) (Nat.le_of_ble_eq_true rfl) (by decide) (Or.inr hk) hco (fun l hl o ho => sp_X3_thrown hl ho) (fun v328 M327 => ?_)
  refine j_iload (pc := 819) C dL_law_819 rfl ?_
  refine j_icmp_eq (pc := 821) C dL_law_821 (tgt := 826) (by decide) (fun hc332 => ?_) (fun hc332 => ?_)
  · refine j_iload (pc := 826) C dL_law_826 rfl ?_
    refine j_if_ne (pc := 828) C dL_law_828 (tgt := 843) (by decide) (fun hc331 => ?_) (fun hc331 => ?_)
    · refine j_goto (pc := 843) C dL_law_843 (tgt := 1686) (by decide) ?_
      refine j_iinc (pc := 1686) C dL_law_1686 rfl (v := (x4 + (5 : Int32))) rfl (Nat.le_of_ble_eq_true rfl) (ls' := [(4, .int (x4 + (5 : Int32))), (6, .int v326), (0, .ref sb), (1, .ref x1), (2, .ref x2), (3, .ref x3), (5, .int x5)]) rfl ?_
      refine j_goto (pc := 1689) C dL_law_1689 (tgt := 23) (by decide) ?_
      refine j_loc [2, 3, 4, 5, 0] rfl ?_
      exact h23 (ad9 κ (1, 6)) ⟨Nat.le_refl _, Nat.le_refl _⟩ x1 x2 x3 (x4 + (5 : Int32)) M327
    · refine j_aload_n (pc := 831) C dL_law_831 rfl ?_
      refine j_iconst (pc := 832) C dL_law_832 (v := 0) rfl ?_
      refine j_laload (pc := 833) C dL_law_833 (fun v329 => ?_)
      refine j_iload (pc := 834) C dL_law_834 rfl ?_
      refine j_i2l (pc := 836) C dL_law_836 ?_
      refine j_lcmp (pc := 837) C dL_law_837 ?_
      refine j_if_eq (pc := 838) C dL_law_838 (tgt := 843) (by decide) (fun hc330 => ?_) (fun hc330 => ?_)
      · refine j_goto (pc := 843) C dL_law_843 (tgt := 1686) (by decide) ?_
        refine j_iinc (pc := 1686) C dL_law_1686 rfl (v := (x4 + (5 : Int32))) rfl (Nat.le_of_ble_eq_true rfl) (ls' := [(4, .int (x4 + (5 : Int32))), (6, .int v326), (0, .ref sb), (1, .ref x1), (2, .ref x2), (3, .ref x3), (5, .int x5)]) rfl ?_
        refine j_goto (pc := 1689) C dL_law_1689 (tgt := 23) (by decide) ?_
        refine j_loc [2, 3, 4, 5, 0] rfl ?_
        exact h23 (ad9 κ (1, 6)) ⟨Nat.le_refl _, Nat.le_refl _⟩ x1 x2 x3 (x4 + (5 : Int32)) M327
      · refine j_iconst (pc := 841) C dL_law_841 (v := 0) rfl ?_
        exact j_zreturn (pc := 842) C rfl dL_law_842 (lk1 hk)
  · refine j_iconst (pc := 824) C dL_law_824 (v := 0) rfl ?_
    exact j_zreturn (pc := 825) C rfl dL_law_825 (lk1 hk)
def f_L_law_b783 (z : Sh9) (L : Nat) (xs : Nat → Int32) (r23 : Nat → Nat → Nat → Int32 → Mem9 → Re9) (x1 : Nat) (x2 : Nat) (x3 : Nat) (x4 : Int32) (s0 : Int32) (s1 : Int32) (s2 : Nat) (M : Mem9) : Re9 :=
  (bi9 (f_L_loop z s2 s1 s0 x3 M) fun v315 M314 => ((sx9 L xs (x4 + (1 : Int32))).bind fun v316 => ((sx9 L xs (x4 + (2 : Int32))).bind fun v317 => (if v317 = 0 then (f_L_law_b810 z L xs r23 x1 x2 x3 x4 v315 (0 : Int32) v316 x2 M314) else (f_L_law_b810 z L xs r23 x1 x2 x3 x4 v315 (1 : Int32) v316 x2 M314)))))
set_option maxRecDepth 20000 in
set_option maxHeartbeats 4000000 in
theorem t_L_law_b783 {z : Sh9} {sb L : Nat} {xs : Nat → Int32} {D : va_G} {ca : Nat → ClassId} {X : Cx9} {out : Out9 × Mem9} {cm κ : Ka9} (C : OK9 z (sb, L, xs, D, ca) X out 7 cm cL_law RL 11 2 []) (hk : le9 (ad9 (ad9 κ (1, 6)) (1, 6)) cm) (hco : le9 (co9 out.1) cm) {r23 : Nat → Nat → Nat → Int32 → Mem9 → Re9} (h23 : ∀ κ2 : Ka9, le9 κ2 (ad9 κ (1, 6)) → ∀ (x1 x2 x3 : Nat) (x4 : Int32) (M : Mem9), J9 z (sb, L, xs, D, ca) X out 7 23 [(0, .ref sb), (1, .ref x1), (2, .ref x2), (3, .ref x3), (4, .int x4)] [] M κ2 (r23 x1 x2 x3 x4 M)) (x1 : Nat) (x2 : Nat) (x3 : Nat) (x4 : Int32) (s0 : Int32) (s1 : Int32) (s2 : Nat) (M : Mem9) : J9 z (sb, L, xs, D, ca) X out 7 783 [(0, .ref sb), (1, .ref x1), (2, .ref x2), (3, .ref x3), (4, .int x4)] [.int s0, .int s1, .ref s2] M κ (f_L_law_b783 z L xs r23 x1 x2 x3 x4 s0 s1 s2 M) := by
  refine j_aload_n (pc := 783) C dL_law_783 rfl ?_
  refine j_callWi (pc := 784) C rfl dL_law_784 lw_L_141 rfl (Nat.le_of_ble_eq_true rfl) (Nat.le_of_ble_eq_true rfl) (by decide) (lk1 hk) (fun l hl o ho => sp_L_loop hl ho) (fun v315 M314 => ?_)
  refine j_istore (pc := 787) C dL_law_787 (Nat.le_of_ble_eq_true rfl) (ls' := [(5, .int v315), (0, .ref sb), (1, .ref x1), (2, .ref x2), (3, .ref x3), (4, .int x4)]) rfl ?_
  refine j_aload_n (pc := 789) C dL_law_789 rfl ?_
  refine j_aload_n (pc := 790) C dL_law_790 rfl ?_
  refine j_iload (pc := 791) C dL_law_791 rfl ?_
  refine j_iconst (pc := 793) C dL_law_793 (v := 1) rfl ?_
  refine j_iadd (pc := 794) C dL_law_794 ?_
  refine j_sld (pc := 795) C dL_law_795 (fun v316 => ?_)
  refine j_aload_n (pc := 796) C dL_law_796 rfl ?_
  refine j_iload (pc := 797) C dL_law_797 rfl ?_
  refine j_iconst (pc := 799) C dL_law_799 (v := 2) rfl ?_
  refine j_iadd (pc := 800) C dL_law_800 ?_
  refine j_sld (pc := 801) C dL_law_801 (fun v317 => ?_)
  refine j_if_eq (pc := 802) C dL_law_802 (tgt := 809) (by decide) (fun hc318 => ?_) (fun hc318 => ?_)
  · refine j_iconst (pc := 809) C dL_law_809 (v := 0) rfl ?_
    refine j_loc [1, 2, 3, 4, 5, 0] rfl ?_
    exact t_L_law_b810 C hk hco h23 x1 x2 x3 x4 v315 (0 : Int32) v316 x2 M314
  · refine j_iconst (pc := 805) C dL_law_805 (v := 1) rfl ?_
    refine j_goto (pc := 806) C dL_law_806 (tgt := 810) (by decide) ?_
    refine j_loc [1, 2, 3, 4, 5, 0] rfl ?_
    exact t_L_law_b810 C hk hco h23 x1 x2 x3 x4 v315 (1 : Int32) v316 x2 M314
def f_L_law_b762 (z : Sh9) (L : Nat) (xs : Nat → Int32) (r23 : Nat → Nat → Nat → Int32 → Mem9 → Re9) (x1 : Nat) (x2 : Nat) (x3 : Nat) (x4 : Int32) (M : Mem9) : Re9 :=
  ((sx9 L xs (x4 + (1 : Int32))).bind fun v141 => ((sx9 L xs (x4 + (2 : Int32))).bind fun v142 => (if v142 = 0 then (f_L_law_b783 z L xs r23 x1 x2 x3 x4 (0 : Int32) v141 x1 M) else (f_L_law_b783 z L xs r23 x1 x2 x3 x4 (1 : Int32) v141 x1 M))))
set_option maxRecDepth 20000 in
set_option maxHeartbeats 4000000 in
theorem t_L_law_b762 {z : Sh9} {sb L : Nat} {xs : Nat → Int32} {D : va_G} {ca : Nat → ClassId} {X : Cx9} {out : Out9 × Mem9} {cm κ : Ka9} (C : OK9 z (sb, L, xs, D, ca) X out 7 cm cL_law RL 11 2 []) (hk : le9 (ad9 (ad9 κ (1, 6)) (1, 6)) cm) (hco : le9 (co9 out.1) cm) {r23 : Nat → Nat → Nat → Int32 → Mem9 → Re9} (h23 : ∀ κ2 : Ka9, le9 κ2 (ad9 κ (1, 6)) → ∀ (x1 x2 x3 : Nat) (x4 : Int32) (M : Mem9), J9 z (sb, L, xs, D, ca) X out 7 23 [(0, .ref sb), (1, .ref x1), (2, .ref x2), (3, .ref x3), (4, .int x4)] [] M κ2 (r23 x1 x2 x3 x4 M)) (x1 : Nat) (x2 : Nat) (x3 : Nat) (x4 : Int32) (M : Mem9) : J9 z (sb, L, xs, D, ca) X out 7 762 [(0, .ref sb), (1, .ref x1), (2, .ref x2), (3, .ref x3), (4, .int x4)] [] M κ (f_L_law_b762 z L xs r23 x1 x2 x3 x4 M) := by
  refine j_aload_n (pc := 762) C dL_law_762 rfl ?_
  refine j_aload_n (pc := 763) C dL_law_763 rfl ?_
  refine j_iload (pc := 764) C dL_law_764 rfl ?_
  refine j_iconst (pc := 766) C dL_law_766 (v := 1) rfl ?_
  refine j_iadd (pc := 767) C dL_law_767 ?_
  refine j_sld (pc := 768) C dL_law_768 (fun v141 => ?_)
  refine j_aload_n (pc := 769) C dL_law_769 rfl ?_
  refine j_iload (pc := 770) C dL_law_770 rfl ?_
  refine j_iconst (pc := 772) C dL_law_772 (v := 2) rfl ?_
  refine j_iadd (pc := 773) C dL_law_773 ?_
  refine j_sld (pc := 774) C dL_law_774 (fun v142 => ?_)
  refine j_if_eq (pc := 775) C dL_law_775 (tgt := 782) (by decide) (fun hc143 => ?_) (fun hc143 => ?_)
  · refine j_iconst (pc := 782) C dL_law_782 (v := 0) rfl ?_
    exact t_L_law_b783 C hk hco h23 x1 x2 x3 x4 (0 : Int32) v141 x1 M
  · refine j_iconst (pc := 778) C dL_law_778 (v := 1) rfl ?_
    refine j_goto (pc := 779) C dL_law_779 (tgt := 783) (by decide) ?_
    exact t_L_law_b783 C hk hco h23 x1 x2 x3 x4 (1 : Int32) v141 x1 M
def f_L_law_b726 (z : Sh9) (L : Nat) (xs : Nat → Int32) (r23 : Nat → Nat → Nat → Int32 → Mem9 → Re9) (x1 : Nat) (x2 : Nat) (x3 : Nat) (x4 : Int32) (x5 : Int32) (s0 : Int32) (s1 : Int32) (s2 : Int32) (s3 : Int32) (s4 : Nat) (M : Mem9) : Re9 :=
  (bi9 (iv9 z s4 3 (f_X3_arrive z s4 s3 s2 s1 s0 M)) fun v336 M335 => (bi9 (iv9 z x2 3 (f_X3_thrown z x2  M335)) fun v338 M337 => (if v338 = x5 then (if x5 = 0 then ((ld9 z M337 13 x3 (0 : Int32)).bind fun v339 => (if (lg_cmp (Int32.toInt64 v339) (Int32.toInt64 v336)) = 0 then (r23 x1 x2 x3 (x4 + (5 : Int32)) M337) else (rz9 (0 : Int32) M337))) else (r23 x1 x2 x3 (x4 + (5 : Int32)) M337)) else (rz9 (0 : Int32) M337))))
set_option maxRecDepth 20000 in
set_option maxHeartbeats 4000000 in
theorem t_L_law_b726 {z : Sh9} {sb L : Nat} {xs : Nat → Int32} {D : va_G} {ca : Nat → ClassId} {X : Cx9} {out : Out9 × Mem9} {cm κ : Ka9} (C : OK9 z (sb, L, xs, D, ca) X out 7 cm cL_law RL 11 2 []) (hk : le9 (ad9 (ad9 κ (1, 6)) (1, 6)) cm) (hco : le9 (co9 out.1) cm) {r23 : Nat → Nat → Nat → Int32 → Mem9 → Re9} (h23 : ∀ κ2 : Ka9, le9 κ2 (ad9 κ (1, 6)) → ∀ (x1 x2 x3 : Nat) (x4 : Int32) (M : Mem9), J9 z (sb, L, xs, D, ca) X out 7 23 [(0, .ref sb), (1, .ref x1), (2, .ref x2), (3, .ref x3), (4, .int x4)] [] M κ2 (r23 x1 x2 x3 x4 M)) (x1 : Nat) (x2 : Nat) (x3 : Nat) (x4 : Int32) (x5 : Int32) (s0 : Int32) (s1 : Int32) (s2 : Int32) (s3 : Int32) (s4 : Nat) (M : Mem9) : J9 z (sb, L, xs, D, ca) X out 7 726 [(0, .ref sb), (1, .ref x1), (2, .ref x2), (3, .ref x3), (4, .int x4), (5, .int x5)] [.int s0, .int s1, .int s2, .int s3, .ref s4] M (ad9 κ (1, 6)) (f_L_law_b726 z L xs r23 x1 x2 x3 x4 x5 s0 s1 s2 s3 s4 M) := by
  refine j_callVi (pc := 726) C rfl dL_law_726 lv_L_140 rfl (Nat.le_of_ble_eq_true rfl) (Nat.le_of_ble_eq_true rfl) (by decide) (Or.inr hk) hco (fun l hl o ho => sp_X3_arrive hl ho) (fun v336 M335 => ?_)
  refine j_istore (pc := 729) C dL_law_729 (Nat.le_of_ble_eq_true rfl) (ls' := [(6, .int v336), (0, .ref sb), (1, .ref x1), (2, .ref x2), (3, .ref x3), (4, .int x4), (5, .int x5)]) rfl ?_
  refine j_aload_n (pc := 731) C dL_law_731 rfl ?_
  refine j_callVi (pc := 732) C rfl dL_law_732 lv_L_102 rfl (Nat.le_of_ble_eq_true rfl) (Nat.le_of_ble_eq_true rfl) (by decide) (Or.inr hk) hco (fun l hl o ho => sp_X3_thrown hl ho) (fun v338 M337 => ?_)
  refine j_iload (pc := 735) C dL_law_735 rfl ?_
  refine j_icmp_eq (pc := 737) C dL_law_737 (tgt := 742) (by decide) (fun hc342 => ?_) (fun hc342 => ?_)
  · refine j_iload (pc := 742) C dL_law_742 rfl ?_
    refine j_if_ne (pc := 744) C dL_law_744 (tgt := 759) (by decide) (fun hc341 => ?_) (fun hc341 => ?_)
    · refine j_goto (pc := 759) C dL_law_759 (tgt := 1686) (by decide) ?_
      refine j_iinc (pc := 1686) C dL_law_1686 rfl (v := (x4 + (5 : Int32))) rfl (Nat.le_of_ble_eq_true rfl) (ls' := [(4, .int (x4 + (5 : Int32))), (6, .int v336), (0, .ref sb), (1, .ref x1), (2, .ref x2), (3, .ref x3), (5, .int x5)]) rfl ?_
      refine j_goto (pc := 1689) C dL_law_1689 (tgt := 23) (by decide) ?_
      refine j_loc [2, 3, 4, 5, 0] rfl ?_
      exact h23 (ad9 κ (1, 6)) ⟨Nat.le_refl _, Nat.le_refl _⟩ x1 x2 x3 (x4 + (5 : Int32)) M337
    · refine j_aload_n (pc := 747) C dL_law_747 rfl ?_
      refine j_iconst (pc := 748) C dL_law_748 (v := 0) rfl ?_
      refine j_laload (pc := 749) C dL_law_749 (fun v339 => ?_)
      refine j_iload (pc := 750) C dL_law_750 rfl ?_
      refine j_i2l (pc := 752) C dL_law_752 ?_
      refine j_lcmp (pc := 753) C dL_law_753 ?_
      refine j_if_eq (pc := 754) C dL_law_754 (tgt := 759) (by decide) (fun hc340 => ?_) (fun hc340 => ?_)
      · refine j_goto (pc := 759) C dL_law_759 (tgt := 1686) (by decide) ?_
        refine j_iinc (pc := 1686) C dL_law_1686 rfl (v := (x4 + (5 : Int32))) rfl (Nat.le_of_ble_eq_true rfl) (ls' := [(4, .int (x4 + (5 : Int32))), (6, .int v336), (0, .ref sb), (1, .ref x1), (2, .ref x2), (3, .ref x3), (5, .int x5)]) rfl ?_
        refine j_goto (pc := 1689) C dL_law_1689 (tgt := 23) (by decide) ?_
        refine j_loc [2, 3, 4, 5, 0] rfl ?_
        exact h23 (ad9 κ (1, 6)) ⟨Nat.le_refl _, Nat.le_refl _⟩ x1 x2 x3 (x4 + (5 : Int32)) M337
      · refine j_iconst (pc := 757) C dL_law_757 (v := 0) rfl ?_
        exact j_zreturn (pc := 758) C rfl dL_law_758 (lk1 hk)
  · refine j_iconst (pc := 740) C dL_law_740 (v := 0) rfl ?_
    exact j_zreturn (pc := 741) C rfl dL_law_741 (lk1 hk)
def f_L_law_b712 (z : Sh9) (L : Nat) (xs : Nat → Int32) (r23 : Nat → Nat → Nat → Int32 → Mem9 → Re9) (x1 : Nat) (x2 : Nat) (x3 : Nat) (x4 : Int32) (x5 : Int32) (s0 : Int32) (s1 : Int32) (s2 : Int32) (s3 : Nat) (M : Mem9) : Re9 :=
  ((sx9 L xs (x4 + (4 : Int32))).bind fun v333 => (if v333 = 0 then (f_L_law_b726 z L xs r23 x1 x2 x3 x4 x5 (0 : Int32) s0 s1 s2 s3 M) else (f_L_law_b726 z L xs r23 x1 x2 x3 x4 x5 (1 : Int32) s0 s1 s2 s3 M)))
set_option maxRecDepth 20000 in
set_option maxHeartbeats 4000000 in
theorem t_L_law_b712 {z : Sh9} {sb L : Nat} {xs : Nat → Int32} {D : va_G} {ca : Nat → ClassId} {X : Cx9} {out : Out9 × Mem9} {cm κ : Ka9} (C : OK9 z (sb, L, xs, D, ca) X out 7 cm cL_law RL 11 2 []) (hk : le9 (ad9 (ad9 κ (1, 6)) (1, 6)) cm) (hco : le9 (co9 out.1) cm) {r23 : Nat → Nat → Nat → Int32 → Mem9 → Re9} (h23 : ∀ κ2 : Ka9, le9 κ2 (ad9 κ (1, 6)) → ∀ (x1 x2 x3 : Nat) (x4 : Int32) (M : Mem9), J9 z (sb, L, xs, D, ca) X out 7 23 [(0, .ref sb), (1, .ref x1), (2, .ref x2), (3, .ref x3), (4, .int x4)] [] M κ2 (r23 x1 x2 x3 x4 M)) (x1 : Nat) (x2 : Nat) (x3 : Nat) (x4 : Int32) (x5 : Int32) (s0 : Int32) (s1 : Int32) (s2 : Int32) (s3 : Nat) (M : Mem9) : J9 z (sb, L, xs, D, ca) X out 7 712 [(0, .ref sb), (1, .ref x1), (2, .ref x2), (3, .ref x3), (4, .int x4), (5, .int x5)] [.int s0, .int s1, .int s2, .ref s3] M (ad9 κ (1, 6)) (f_L_law_b712 z L xs r23 x1 x2 x3 x4 x5 s0 s1 s2 s3 M) := by
  refine j_aload_n (pc := 712) C dL_law_712 rfl ?_
  refine j_iload (pc := 713) C dL_law_713 rfl ?_
  refine j_iconst (pc := 715) C dL_law_715 (v := 4) rfl ?_
  refine j_iadd (pc := 716) C dL_law_716 ?_
  refine j_sld (pc := 717) C dL_law_717 (fun v333 => ?_)
  refine j_if_eq (pc := 718) C dL_law_718 (tgt := 725) (by decide) (fun hc334 => ?_) (fun hc334 => ?_)
  · refine j_iconst (pc := 725) C dL_law_725 (v := 0) rfl ?_
    exact t_L_law_b726 C hk hco h23 x1 x2 x3 x4 x5 (0 : Int32) s0 s1 s2 s3 M
  · refine j_iconst (pc := 721) C dL_law_721 (v := 1) rfl ?_
    refine j_goto (pc := 722) C dL_law_722 (tgt := 726) (by decide) ?_
    exact t_L_law_b726 C hk hco h23 x1 x2 x3 x4 x5 (1 : Int32) s0 s1 s2 s3 M
def f_L_law_b679 (z : Sh9) (L : Nat) (xs : Nat → Int32) (r23 : Nat → Nat → Nat → Int32 → Mem9 → Re9) (x1 : Nat) (x2 : Nat) (x3 : Nat) (x4 : Int32) (s0 : Int32) (s1 : Int32) (s2 : Int32) (s3 : Int32) (s4 : Nat) (M : Mem9) : Re9 :=
  (bi9 (f_L_arrive z s4 s3 s2 s1 s0 x3 M) fun v320 M319 => ((sx9 L xs (x4 + (1 : Int32))).bind fun v321 => ((sx9 L xs (x4 + (2 : Int32))).bind fun v322 => ((sx9 L xs (x4 + (3 : Int32))).bind fun v323 => (if v323 = 0 then (f_L_law_b712 z L xs r23 x1 x2 x3 x4 v320 (0 : Int32) v322 v321 x2 M319) else (f_L_law_b712 z L xs r23 x1 x2 x3 x4 v320 (1 : Int32) v322 v321 x2 M319))))))
set_option maxRecDepth 20000 in
set_option maxHeartbeats 4000000 in
theorem t_L_law_b679 {z : Sh9} {sb L : Nat} {xs : Nat → Int32} {D : va_G} {ca : Nat → ClassId} {X : Cx9} {out : Out9 × Mem9} {cm κ : Ka9} (C : OK9 z (sb, L, xs, D, ca) X out 7 cm cL_law RL 11 2 []) (hk : le9 (ad9 (ad9 κ (1, 6)) (1, 6)) cm) (hco : le9 (co9 out.1) cm) {r23 : Nat → Nat → Nat → Int32 → Mem9 → Re9} (h23 : ∀ κ2 : Ka9, le9 κ2 (ad9 κ (1, 6)) → ∀ (x1 x2 x3 : Nat) (x4 : Int32) (M : Mem9), J9 z (sb, L, xs, D, ca) X out 7 23 [(0, .ref sb), (1, .ref x1), (2, .ref x2), (3, .ref x3), (4, .int x4)] [] M κ2 (r23 x1 x2 x3 x4 M)) (x1 : Nat) (x2 : Nat) (x3 : Nat) (x4 : Int32) (s0 : Int32) (s1 : Int32) (s2 : Int32) (s3 : Int32) (s4 : Nat) (M : Mem9) : J9 z (sb, L, xs, D, ca) X out 7 679 [(0, .ref sb), (1, .ref x1), (2, .ref x2), (3, .ref x3), (4, .int x4)] [.int s0, .int s1, .int s2, .int s3, .ref s4] M κ (f_L_law_b679 z L xs r23 x1 x2 x3 x4 s0 s1 s2 s3 s4 M) := by
  refine j_aload_n (pc := 679) C dL_law_679 rfl ?_
  refine j_callWi (pc := 680) C rfl dL_law_680 lw_L_137 rfl (Nat.le_of_ble_eq_true rfl) (Nat.le_of_ble_eq_true rfl) (by decide) (lk1 hk) (fun l hl o ho => sp_L_arrive hl ho) (fun v320 M319 => ?_)
  refine j_istore (pc := 683) C dL_law_683 (Nat.le_of_ble_eq_true rfl) (ls' := [(5, .int v320), (0, .ref sb), (1, .ref x1), (2, .ref x2), (3, .ref x3), (4, .int x4)]) rfl ?_
  refine j_aload_n (pc := 685) C dL_law_685 rfl ?_
  refine j_aload_n (pc := 686) C dL_law_686 rfl ?_
  refine j_iload (pc := 687) C dL_law_687 rfl ?_
  refine j_iconst (pc := 689) C dL_law_689 (v := 1) rfl ?_
  refine j_iadd (pc := 690) C dL_law_690 ?_
  refine j_sld (pc := 691) C dL_law_691 (fun v321 => ?_)
  refine j_aload_n (pc := 692) C dL_law_692 rfl ?_
  refine j_iload (pc := 693) C dL_law_693 rfl ?_
  refine j_iconst (pc := 695) C dL_law_695 (v := 2) rfl ?_
  refine j_iadd (pc := 696) C dL_law_696 ?_
  refine j_sld (pc := 697) C dL_law_697 (fun v322 => ?_)
  refine j_aload_n (pc := 698) C dL_law_698 rfl ?_
  refine j_iload (pc := 699) C dL_law_699 rfl ?_
  refine j_iconst (pc := 701) C dL_law_701 (v := 3) rfl ?_
  refine j_iadd (pc := 702) C dL_law_702 ?_
  refine j_sld (pc := 703) C dL_law_703 (fun v323 => ?_)
  refine j_if_eq (pc := 704) C dL_law_704 (tgt := 711) (by decide) (fun hc324 => ?_) (fun hc324 => ?_)
  · refine j_iconst (pc := 711) C dL_law_711 (v := 0) rfl ?_
    refine j_loc [1, 2, 3, 4, 5, 0] rfl ?_
    exact t_L_law_b712 C hk hco h23 x1 x2 x3 x4 v320 (0 : Int32) v322 v321 x2 M319
  · refine j_iconst (pc := 707) C dL_law_707 (v := 1) rfl ?_
    refine j_goto (pc := 708) C dL_law_708 (tgt := 712) (by decide) ?_
    refine j_loc [1, 2, 3, 4, 5, 0] rfl ?_
    exact t_L_law_b712 C hk hco h23 x1 x2 x3 x4 v320 (1 : Int32) v322 v321 x2 M319
def f_L_law_b665 (z : Sh9) (L : Nat) (xs : Nat → Int32) (r23 : Nat → Nat → Nat → Int32 → Mem9 → Re9) (x1 : Nat) (x2 : Nat) (x3 : Nat) (x4 : Int32) (s0 : Int32) (s1 : Int32) (s2 : Int32) (s3 : Nat) (M : Mem9) : Re9 :=
  ((sx9 L xs (x4 + (4 : Int32))).bind fun v312 => (if v312 = 0 then (f_L_law_b679 z L xs r23 x1 x2 x3 x4 (0 : Int32) s0 s1 s2 s3 M) else (f_L_law_b679 z L xs r23 x1 x2 x3 x4 (1 : Int32) s0 s1 s2 s3 M)))
set_option maxRecDepth 20000 in
set_option maxHeartbeats 4000000 in
theorem t_L_law_b665 {z : Sh9} {sb L : Nat} {xs : Nat → Int32} {D : va_G} {ca : Nat → ClassId} {X : Cx9} {out : Out9 × Mem9} {cm κ : Ka9} (C : OK9 z (sb, L, xs, D, ca) X out 7 cm cL_law RL 11 2 []) (hk : le9 (ad9 (ad9 κ (1, 6)) (1, 6)) cm) (hco : le9 (co9 out.1) cm) {r23 : Nat → Nat → Nat → Int32 → Mem9 → Re9} (h23 : ∀ κ2 : Ka9, le9 κ2 (ad9 κ (1, 6)) → ∀ (x1 x2 x3 : Nat) (x4 : Int32) (M : Mem9), J9 z (sb, L, xs, D, ca) X out 7 23 [(0, .ref sb), (1, .ref x1), (2, .ref x2), (3, .ref x3), (4, .int x4)] [] M κ2 (r23 x1 x2 x3 x4 M)) (x1 : Nat) (x2 : Nat) (x3 : Nat) (x4 : Int32) (s0 : Int32) (s1 : Int32) (s2 : Int32) (s3 : Nat) (M : Mem9) : J9 z (sb, L, xs, D, ca) X out 7 665 [(0, .ref sb), (1, .ref x1), (2, .ref x2), (3, .ref x3), (4, .int x4)] [.int s0, .int s1, .int s2, .ref s3] M κ (f_L_law_b665 z L xs r23 x1 x2 x3 x4 s0 s1 s2 s3 M) := by
  refine j_aload_n (pc := 665) C dL_law_665 rfl ?_
  refine j_iload (pc := 666) C dL_law_666 rfl ?_
  refine j_iconst (pc := 668) C dL_law_668 (v := 4) rfl ?_
  refine j_iadd (pc := 669) C dL_law_669 ?_
  refine j_sld (pc := 670) C dL_law_670 (fun v312 => ?_)
  refine j_if_eq (pc := 671) C dL_law_671 (tgt := 678) (by decide) (fun hc313 => ?_) (fun hc313 => ?_)
  · refine j_iconst (pc := 678) C dL_law_678 (v := 0) rfl ?_
    exact t_L_law_b679 C hk hco h23 x1 x2 x3 x4 (0 : Int32) s0 s1 s2 s3 M
  · refine j_iconst (pc := 674) C dL_law_674 (v := 1) rfl ?_
    refine j_goto (pc := 675) C dL_law_675 (tgt := 679) (by decide) ?_
    exact t_L_law_b679 C hk hco h23 x1 x2 x3 x4 (1 : Int32) s0 s1 s2 s3 M
def f_L_law_b638 (z : Sh9) (L : Nat) (xs : Nat → Int32) (r23 : Nat → Nat → Nat → Int32 → Mem9 → Re9) (x1 : Nat) (x2 : Nat) (x3 : Nat) (x4 : Int32) (M : Mem9) : Re9 :=
  ((sx9 L xs (x4 + (1 : Int32))).bind fun v137 => ((sx9 L xs (x4 + (2 : Int32))).bind fun v138 => ((sx9 L xs (x4 + (3 : Int32))).bind fun v139 => (if v139 = 0 then (f_L_law_b665 z L xs r23 x1 x2 x3 x4 (0 : Int32) v138 v137 x1 M) else (f_L_law_b665 z L xs r23 x1 x2 x3 x4 (1 : Int32) v138 v137 x1 M)))))
set_option maxRecDepth 20000 in
set_option maxHeartbeats 4000000 in
theorem t_L_law_b638 {z : Sh9} {sb L : Nat} {xs : Nat → Int32} {D : va_G} {ca : Nat → ClassId} {X : Cx9} {out : Out9 × Mem9} {cm κ : Ka9} (C : OK9 z (sb, L, xs, D, ca) X out 7 cm cL_law RL 11 2 []) (hk : le9 (ad9 (ad9 κ (1, 6)) (1, 6)) cm) (hco : le9 (co9 out.1) cm) {r23 : Nat → Nat → Nat → Int32 → Mem9 → Re9} (h23 : ∀ κ2 : Ka9, le9 κ2 (ad9 κ (1, 6)) → ∀ (x1 x2 x3 : Nat) (x4 : Int32) (M : Mem9), J9 z (sb, L, xs, D, ca) X out 7 23 [(0, .ref sb), (1, .ref x1), (2, .ref x2), (3, .ref x3), (4, .int x4)] [] M κ2 (r23 x1 x2 x3 x4 M)) (x1 : Nat) (x2 : Nat) (x3 : Nat) (x4 : Int32) (M : Mem9) : J9 z (sb, L, xs, D, ca) X out 7 638 [(0, .ref sb), (1, .ref x1), (2, .ref x2), (3, .ref x3), (4, .int x4)] [] M κ (f_L_law_b638 z L xs r23 x1 x2 x3 x4 M) := by
  refine j_aload_n (pc := 638) C dL_law_638 rfl ?_
  refine j_aload_n (pc := 639) C dL_law_639 rfl ?_
  refine j_iload (pc := 640) C dL_law_640 rfl ?_
  refine j_iconst (pc := 642) C dL_law_642 (v := 1) rfl ?_
  refine j_iadd (pc := 643) C dL_law_643 ?_
  refine j_sld (pc := 644) C dL_law_644 (fun v137 => ?_)
  refine j_aload_n (pc := 645) C dL_law_645 rfl ?_
  refine j_iload (pc := 646) C dL_law_646 rfl ?_
  refine j_iconst (pc := 648) C dL_law_648 (v := 2) rfl ?_
  refine j_iadd (pc := 649) C dL_law_649 ?_
  refine j_sld (pc := 650) C dL_law_650 (fun v138 => ?_)
  refine j_aload_n (pc := 651) C dL_law_651 rfl ?_
  refine j_iload (pc := 652) C dL_law_652 rfl ?_
  refine j_iconst (pc := 654) C dL_law_654 (v := 3) rfl ?_
  refine j_iadd (pc := 655) C dL_law_655 ?_
  refine j_sld (pc := 656) C dL_law_656 (fun v139 => ?_)
  refine j_if_eq (pc := 657) C dL_law_657 (tgt := 664) (by decide) (fun hc140 => ?_) (fun hc140 => ?_)
  · refine j_iconst (pc := 664) C dL_law_664 (v := 0) rfl ?_
    exact t_L_law_b665 C hk hco h23 x1 x2 x3 x4 (0 : Int32) v138 v137 x1 M
  · refine j_iconst (pc := 660) C dL_law_660 (v := 1) rfl ?_
    refine j_goto (pc := 661) C dL_law_661 (tgt := 665) (by decide) ?_
    exact t_L_law_b665 C hk hco h23 x1 x2 x3 x4 (1 : Int32) v138 v137 x1 M
def f_L_law_b594 (z : Sh9) (L : Nat) (xs : Nat → Int32) (r23 : Nat → Nat → Nat → Int32 → Mem9 → Re9) (x1 : Nat) (x2 : Nat) (x3 : Nat) (x4 : Int32) (M : Mem9) : Re9 :=
  (bi9 (f_L_lane z x1 x3 M) fun v128 M127 => (bi9 (iv9 z x2 3 (f_X3_lane z x2  M127)) fun v130 M129 => (bi9 (iv9 z x2 3 (f_X3_thrown z x2  M129)) fun v132 M131 => (if v132 = v128 then (if v128 = 0 then ((ld9 z M131 13 x3 (0 : Int32)).bind fun v133 => (if (lg_cmp (Int32.toInt64 v133) (Int32.toInt64 v130)) = 0 then (r23 x1 x2 x3 (x4 + (5 : Int32)) M131) else (rz9 (0 : Int32) M131))) else (r23 x1 x2 x3 (x4 + (5 : Int32)) M131)) else (rz9 (0 : Int32) M131)))))
set_option maxRecDepth 20000 in
set_option maxHeartbeats 4000000 in
theorem t_L_law_b594 {z : Sh9} {sb L : Nat} {xs : Nat → Int32} {D : va_G} {ca : Nat → ClassId} {X : Cx9} {out : Out9 × Mem9} {cm κ : Ka9} (C : OK9 z (sb, L, xs, D, ca) X out 7 cm cL_law RL 11 2 []) (hk : le9 (ad9 (ad9 κ (1, 6)) (1, 6)) cm) (hco : le9 (co9 out.1) cm) {r23 : Nat → Nat → Nat → Int32 → Mem9 → Re9} (h23 : ∀ κ2 : Ka9, le9 κ2 (ad9 κ (1, 6)) → ∀ (x1 x2 x3 : Nat) (x4 : Int32) (M : Mem9), J9 z (sb, L, xs, D, ca) X out 7 23 [(0, .ref sb), (1, .ref x1), (2, .ref x2), (3, .ref x3), (4, .int x4)] [] M κ2 (r23 x1 x2 x3 x4 M)) (x1 : Nat) (x2 : Nat) (x3 : Nat) (x4 : Int32) (M : Mem9) : J9 z (sb, L, xs, D, ca) X out 7 594 [(0, .ref sb), (1, .ref x1), (2, .ref x2), (3, .ref x3), (4, .int x4)] [] M κ (f_L_law_b594 z L xs r23 x1 x2 x3 x4 M) := by
  refine j_aload_n (pc := 594) C dL_law_594 rfl ?_
  refine j_aload_n (pc := 595) C dL_law_595 rfl ?_
  refine j_callWi (pc := 596) C rfl dL_law_596 lw_L_134 rfl (Nat.le_of_ble_eq_true rfl) (Nat.le_of_ble_eq_true rfl) (by decide) (lk1 hk) (fun l hl o ho => sp_L_lane hl ho) (fun v128 M127 => ?_)
  refine j_istore (pc := 599) C dL_law_599 (Nat.le_of_ble_eq_true rfl) (ls' := [(5, .int v128), (0, .ref sb), (1, .ref x1), (2, .ref x2), (3, .ref x3), (4, .int x4)]) rfl ?_
  refine j_aload_n (pc := 601) C dL_law_601 rfl ?_
  refine j_callVi (pc := 602) C rfl dL_law_602 lv_L_136 rfl (Nat.le_of_ble_eq_true rfl) (Nat.le_of_ble_eq_true rfl) (by decide) (Or.inr hk) hco (fun l hl o ho => sp_X3_lane hl ho) (fun v130 M129 => ?_)
  refine j_istore (pc := 605) C dL_law_605 (Nat.le_of_ble_eq_true rfl) (ls' := [(6, .int v130), (5, .int v128), (0, .ref sb), (1, .ref x1), (2, .ref x2), (3, .ref x3), (4, .int x4)]) rfl ?_
  refine j_aload_n (pc := 607) C dL_law_607 rfl ?_
  refine j_callVi (pc := 608) C rfl dL_law_608 lv_L_102 rfl (Nat.le_of_ble_eq_true rfl) (Nat.le_of_ble_eq_true rfl) (by decide) (Or.inr hk) hco (fun l hl o ho => sp_X3_thrown hl ho) (fun v132 M131 => ?_)
  refine j_iload (pc := 611) C dL_law_611 rfl ?_
  refine j_icmp_eq (pc := 613) C dL_law_613 (tgt := 618) (by decide) (fun hc136 => ?_) (fun hc136 => ?_)
  · refine j_iload (pc := 618) C dL_law_618 rfl ?_
    refine j_if_ne (pc := 620) C dL_law_620 (tgt := 635) (by decide) (fun hc135 => ?_) (fun hc135 => ?_)
    · refine j_goto (pc := 635) C dL_law_635 (tgt := 1686) (by decide) ?_
      refine j_iinc (pc := 1686) C dL_law_1686 rfl (v := (x4 + (5 : Int32))) rfl (Nat.le_of_ble_eq_true rfl) (ls' := [(4, .int (x4 + (5 : Int32))), (6, .int v130), (5, .int v128), (0, .ref sb), (1, .ref x1), (2, .ref x2), (3, .ref x3)]) rfl ?_
      refine j_goto (pc := 1689) C dL_law_1689 (tgt := 23) (by decide) ?_
      refine j_loc [3, 4, 5, 6, 0] rfl ?_
      exact h23 (ad9 κ (1, 6)) ⟨Nat.le_refl _, Nat.le_refl _⟩ x1 x2 x3 (x4 + (5 : Int32)) M131
    · refine j_aload_n (pc := 623) C dL_law_623 rfl ?_
      refine j_iconst (pc := 624) C dL_law_624 (v := 0) rfl ?_
      refine j_laload (pc := 625) C dL_law_625 (fun v133 => ?_)
      refine j_iload (pc := 626) C dL_law_626 rfl ?_
      refine j_i2l (pc := 628) C dL_law_628 ?_
      refine j_lcmp (pc := 629) C dL_law_629 ?_
      refine j_if_eq (pc := 630) C dL_law_630 (tgt := 635) (by decide) (fun hc134 => ?_) (fun hc134 => ?_)
      · refine j_goto (pc := 635) C dL_law_635 (tgt := 1686) (by decide) ?_
        refine j_iinc (pc := 1686) C dL_law_1686 rfl (v := (x4 + (5 : Int32))) rfl (Nat.le_of_ble_eq_true rfl) (ls' := [(4, .int (x4 + (5 : Int32))), (6, .int v130), (5, .int v128), (0, .ref sb), (1, .ref x1), (2, .ref x2), (3, .ref x3)]) rfl ?_
        refine j_goto (pc := 1689) C dL_law_1689 (tgt := 23) (by decide) ?_
        refine j_loc [3, 4, 5, 6, 0] rfl ?_
        exact h23 (ad9 κ (1, 6)) ⟨Nat.le_refl _, Nat.le_refl _⟩ x1 x2 x3 (x4 + (5 : Int32)) M131
      · refine j_iconst (pc := 633) C dL_law_633 (v := 0) rfl ?_
        exact j_zreturn (pc := 634) C rfl dL_law_634 (lk1 hk)
  · refine j_iconst (pc := 616) C dL_law_616 (v := 0) rfl ?_
    exact j_zreturn (pc := 617) C rfl dL_law_617 (lk1 hk)
def f_L_law_b538 (z : Sh9) (L : Nat) (xs : Nat → Int32) (r23 : Nat → Nat → Nat → Int32 → Mem9 → Re9) (x1 : Nat) (x2 : Nat) (x3 : Nat) (x4 : Int32) (M : Mem9) : Re9 :=
  ((sx9 L xs (x4 + (1 : Int32))).bind fun v115 => (bi9 (f_L_setting z x1 v115 x3 M) fun v117 M116 => ((sx9 L xs (x4 + (1 : Int32))).bind fun v118 => (bi9 (iv9 z x2 3 (f_X3_setting z x2 v118 M116)) fun v120 M119 => (bi9 (iv9 z x2 3 (f_X3_thrown z x2  M119)) fun v122 M121 => (if v122 = v117 then (if v117 = 0 then ((ld9 z M121 13 x3 (0 : Int32)).bind fun v123 => (if (lg_cmp (Int32.toInt64 v123) (Int32.toInt64 v120)) = 0 then (r23 x1 x2 x3 (x4 + (5 : Int32)) M121) else (rz9 (0 : Int32) M121))) else (r23 x1 x2 x3 (x4 + (5 : Int32)) M121)) else (rz9 (0 : Int32) M121)))))))
set_option maxRecDepth 20000 in
set_option maxHeartbeats 4000000 in
theorem t_L_law_b538 {z : Sh9} {sb L : Nat} {xs : Nat → Int32} {D : va_G} {ca : Nat → ClassId} {X : Cx9} {out : Out9 × Mem9} {cm κ : Ka9} (C : OK9 z (sb, L, xs, D, ca) X out 7 cm cL_law RL 11 2 []) (hk : le9 (ad9 (ad9 κ (1, 6)) (1, 6)) cm) (hco : le9 (co9 out.1) cm) {r23 : Nat → Nat → Nat → Int32 → Mem9 → Re9} (h23 : ∀ κ2 : Ka9, le9 κ2 (ad9 κ (1, 6)) → ∀ (x1 x2 x3 : Nat) (x4 : Int32) (M : Mem9), J9 z (sb, L, xs, D, ca) X out 7 23 [(0, .ref sb), (1, .ref x1), (2, .ref x2), (3, .ref x3), (4, .int x4)] [] M κ2 (r23 x1 x2 x3 x4 M)) (x1 : Nat) (x2 : Nat) (x3 : Nat) (x4 : Int32) (M : Mem9) : J9 z (sb, L, xs, D, ca) X out 7 538 [(0, .ref sb), (1, .ref x1), (2, .ref x2), (3, .ref x3), (4, .int x4)] [] M κ (f_L_law_b538 z L xs r23 x1 x2 x3 x4 M) := by
  refine j_aload_n (pc := 538) C dL_law_538 rfl ?_
  refine j_aload_n (pc := 539) C dL_law_539 rfl ?_
  refine j_iload (pc := 540) C dL_law_540 rfl ?_
  refine j_iconst (pc := 542) C dL_law_542 (v := 1) rfl ?_
  refine j_iadd (pc := 543) C dL_law_543 ?_
  refine j_sld (pc := 544) C dL_law_544 (fun v115 => ?_)
  refine j_aload_n (pc := 545) C dL_law_545 rfl ?_
  refine j_callWi (pc := 546) C rfl dL_law_546 lw_L_131 rfl (Nat.le_of_ble_eq_true rfl) (Nat.le_of_ble_eq_true rfl) (by decide) (lk1 hk) (fun l hl o ho => sp_L_setting hl ho) (fun v117 M116 => ?_)
  refine j_istore (pc := 549) C dL_law_549 (Nat.le_of_ble_eq_true rfl) (ls' := [(5, .int v117), (0, .ref sb), (1, .ref x1), (2, .ref x2), (3, .ref x3), (4, .int x4)]) rfl ?_
  refine j_aload_n (pc := 551) C dL_law_551 rfl ?_
  refine j_aload_n (pc := 552) C dL_law_552 rfl ?_
  refine j_iload (pc := 553) C dL_law_553 rfl ?_
  refine j_iconst (pc := 555) C dL_law_555 (v := 1) rfl ?_
  refine j_iadd (pc := 556) C dL_law_556 ?_
  refine j_sld (pc := 557) C dL_law_557 (fun v118 => ?_)
  refine j_callVi (pc := 558) C rfl dL_law_558 lv_L_133 rfl (Nat.le_of_ble_eq_true rfl) (Nat.le_of_ble_eq_true rfl) (by decide) (Or.inr hk) hco (fun l hl o ho => sp_X3_setting hl ho) (fun v120 M119 => ?_)
  refine j_istore (pc := 561) C dL_law_561 (Nat.le_of_ble_eq_true rfl) (ls' := [(6, .int v120), (5, .int v117), (0, .ref sb), (1, .ref x1), (2, .ref x2), (3, .ref x3), (4, .int x4)]) rfl ?_
  refine j_aload_n (pc := 563) C dL_law_563 rfl ?_
  refine j_callVi (pc := 564) C rfl dL_law_564 lv_L_102 rfl (Nat.le_of_ble_eq_true rfl) (Nat.le_of_ble_eq_true rfl) (by decide) (Or.inr hk) hco (fun l hl o ho => sp_X3_thrown hl ho) (fun v122 M121 => ?_)
  refine j_iload (pc := 567) C dL_law_567 rfl ?_
  refine j_icmp_eq (pc := 569) C dL_law_569 (tgt := 574) (by decide) (fun hc126 => ?_) (fun hc126 => ?_)
  · refine j_iload (pc := 574) C dL_law_574 rfl ?_
    refine j_if_ne (pc := 576) C dL_law_576 (tgt := 591) (by decide) (fun hc125 => ?_) (fun hc125 => ?_)
    · refine j_goto (pc := 591) C dL_law_591 (tgt := 1686) (by decide) ?_
      refine j_iinc (pc := 1686) C dL_law_1686 rfl (v := (x4 + (5 : Int32))) rfl (Nat.le_of_ble_eq_true rfl) (ls' := [(4, .int (x4 + (5 : Int32))), (6, .int v120), (5, .int v117), (0, .ref sb), (1, .ref x1), (2, .ref x2), (3, .ref x3)]) rfl ?_
      refine j_goto (pc := 1689) C dL_law_1689 (tgt := 23) (by decide) ?_
      refine j_loc [3, 4, 5, 6, 0] rfl ?_
      exact h23 (ad9 κ (1, 6)) ⟨Nat.le_refl _, Nat.le_refl _⟩ x1 x2 x3 (x4 + (5 : Int32)) M121
    · refine j_aload_n (pc := 579) C dL_law_579 rfl ?_
      refine j_iconst (pc := 580) C dL_law_580 (v := 0) rfl ?_
      refine j_laload (pc := 581) C dL_law_581 (fun v123 => ?_)
      refine j_iload (pc := 582) C dL_law_582 rfl ?_
      refine j_i2l (pc := 584) C dL_law_584 ?_
      refine j_lcmp (pc := 585) C dL_law_585 ?_
      refine j_if_eq (pc := 586) C dL_law_586 (tgt := 591) (by decide) (fun hc124 => ?_) (fun hc124 => ?_)
      · refine j_goto (pc := 591) C dL_law_591 (tgt := 1686) (by decide) ?_
        refine j_iinc (pc := 1686) C dL_law_1686 rfl (v := (x4 + (5 : Int32))) rfl (Nat.le_of_ble_eq_true rfl) (ls' := [(4, .int (x4 + (5 : Int32))), (6, .int v120), (5, .int v117), (0, .ref sb), (1, .ref x1), (2, .ref x2), (3, .ref x3)]) rfl ?_
        refine j_goto (pc := 1689) C dL_law_1689 (tgt := 23) (by decide) ?_
        refine j_loc [3, 4, 5, 6, 0] rfl ?_
        exact h23 (ad9 κ (1, 6)) ⟨Nat.le_refl _, Nat.le_refl _⟩ x1 x2 x3 (x4 + (5 : Int32)) M121
      · refine j_iconst (pc := 589) C dL_law_589 (v := 0) rfl ?_
        exact j_zreturn (pc := 590) C rfl dL_law_590 (lk1 hk)
  · refine j_iconst (pc := 572) C dL_law_572 (v := 0) rfl ?_
    exact j_zreturn (pc := 573) C rfl dL_law_573 (lk1 hk)
def f_L_law_b482 (z : Sh9) (L : Nat) (xs : Nat → Int32) (r23 : Nat → Nat → Nat → Int32 → Mem9 → Re9) (x1 : Nat) (x2 : Nat) (x3 : Nat) (x4 : Int32) (M : Mem9) : Re9 :=
  ((sx9 L xs (x4 + (1 : Int32))).bind fun v103 => (bi9 (f_L_why z x1 v103 x3 M) fun v105 M104 => ((sx9 L xs (x4 + (1 : Int32))).bind fun v106 => (bi9 (iv9 z x2 3 (f_X3_why z x2 v106 M104)) fun v108 M107 => (bi9 (iv9 z x2 3 (f_X3_thrown z x2  M107)) fun v110 M109 => (if v110 = v105 then (if v105 = 0 then ((ld9 z M109 13 x3 (0 : Int32)).bind fun v111 => (if (lg_cmp (Int32.toInt64 v111) (Int32.toInt64 v108)) = 0 then (r23 x1 x2 x3 (x4 + (5 : Int32)) M109) else (rz9 (0 : Int32) M109))) else (r23 x1 x2 x3 (x4 + (5 : Int32)) M109)) else (rz9 (0 : Int32) M109)))))))
set_option maxRecDepth 20000 in
set_option maxHeartbeats 4000000 in
theorem t_L_law_b482 {z : Sh9} {sb L : Nat} {xs : Nat → Int32} {D : va_G} {ca : Nat → ClassId} {X : Cx9} {out : Out9 × Mem9} {cm κ : Ka9} (C : OK9 z (sb, L, xs, D, ca) X out 7 cm cL_law RL 11 2 []) (hk : le9 (ad9 (ad9 κ (1, 6)) (1, 6)) cm) (hco : le9 (co9 out.1) cm) {r23 : Nat → Nat → Nat → Int32 → Mem9 → Re9} (h23 : ∀ κ2 : Ka9, le9 κ2 (ad9 κ (1, 6)) → ∀ (x1 x2 x3 : Nat) (x4 : Int32) (M : Mem9), J9 z (sb, L, xs, D, ca) X out 7 23 [(0, .ref sb), (1, .ref x1), (2, .ref x2), (3, .ref x3), (4, .int x4)] [] M κ2 (r23 x1 x2 x3 x4 M)) (x1 : Nat) (x2 : Nat) (x3 : Nat) (x4 : Int32) (M : Mem9) : J9 z (sb, L, xs, D, ca) X out 7 482 [(0, .ref sb), (1, .ref x1), (2, .ref x2), (3, .ref x3), (4, .int x4)] [] M κ (f_L_law_b482 z L xs r23 x1 x2 x3 x4 M) := by
  refine j_aload_n (pc := 482) C dL_law_482 rfl ?_
  refine j_aload_n (pc := 483) C dL_law_483 rfl ?_
  refine j_iload (pc := 484) C dL_law_484 rfl ?_
  refine j_iconst (pc := 486) C dL_law_486 (v := 1) rfl ?_
  refine j_iadd (pc := 487) C dL_law_487 ?_
  refine j_sld (pc := 488) C dL_law_488 (fun v103 => ?_)
  refine j_aload_n (pc := 489) C dL_law_489 rfl ?_
  refine j_callWi (pc := 490) C rfl dL_law_490 lw_L_128 rfl (Nat.le_of_ble_eq_true rfl) (Nat.le_of_ble_eq_true rfl) (by decide) (lk1 hk) (fun l hl o ho => sp_L_why hl ho) (fun v105 M104 => ?_)
  refine j_istore (pc := 493) C dL_law_493 (Nat.le_of_ble_eq_true rfl) (ls' := [(5, .int v105), (0, .ref sb), (1, .ref x1), (2, .ref x2), (3, .ref x3), (4, .int x4)]) rfl ?_
  refine j_aload_n (pc := 495) C dL_law_495 rfl ?_
  refine j_aload_n (pc := 496) C dL_law_496 rfl ?_
  refine j_iload (pc := 497) C dL_law_497 rfl ?_
  refine j_iconst (pc := 499) C dL_law_499 (v := 1) rfl ?_
  refine j_iadd (pc := 500) C dL_law_500 ?_
  refine j_sld (pc := 501) C dL_law_501 (fun v106 => ?_)
  refine j_callVi (pc := 502) C rfl dL_law_502 lv_L_130 rfl (Nat.le_of_ble_eq_true rfl) (Nat.le_of_ble_eq_true rfl) (by decide) (Or.inr hk) hco (fun l hl o ho => sp_X3_why hl ho) (fun v108 M107 => ?_)
  refine j_istore (pc := 505) C dL_law_505 (Nat.le_of_ble_eq_true rfl) (ls' := [(6, .int v108), (5, .int v105), (0, .ref sb), (1, .ref x1), (2, .ref x2), (3, .ref x3), (4, .int x4)]) rfl ?_
  refine j_aload_n (pc := 507) C dL_law_507 rfl ?_
  refine j_callVi (pc := 508) C rfl dL_law_508 lv_L_102 rfl (Nat.le_of_ble_eq_true rfl) (Nat.le_of_ble_eq_true rfl) (by decide) (Or.inr hk) hco (fun l hl o ho => sp_X3_thrown hl ho) (fun v110 M109 => ?_)
  refine j_iload (pc := 511) C dL_law_511 rfl ?_
  refine j_icmp_eq (pc := 513) C dL_law_513 (tgt := 518) (by decide) (fun hc114 => ?_) (fun hc114 => ?_)
  · refine j_iload (pc := 518) C dL_law_518 rfl ?_
    refine j_if_ne (pc := 520) C dL_law_520 (tgt := 535) (by decide) (fun hc113 => ?_) (fun hc113 => ?_)
    · refine j_goto (pc := 535) C dL_law_535 (tgt := 1686) (by decide) ?_
      refine j_iinc (pc := 1686) C dL_law_1686 rfl (v := (x4 + (5 : Int32))) rfl (Nat.le_of_ble_eq_true rfl) (ls' := [(4, .int (x4 + (5 : Int32))), (6, .int v108), (5, .int v105), (0, .ref sb), (1, .ref x1), (2, .ref x2), (3, .ref x3)]) rfl ?_
      refine j_goto (pc := 1689) C dL_law_1689 (tgt := 23) (by decide) ?_
      refine j_loc [3, 4, 5, 6, 0] rfl ?_
      exact h23 (ad9 κ (1, 6)) ⟨Nat.le_refl _, Nat.le_refl _⟩ x1 x2 x3 (x4 + (5 : Int32)) M109
    · refine j_aload_n (pc := 523) C dL_law_523 rfl ?_
      refine j_iconst (pc := 524) C dL_law_524 (v := 0) rfl ?_
      refine j_laload (pc := 525) C dL_law_525 (fun v111 => ?_)
      refine j_iload (pc := 526) C dL_law_526 rfl ?_
      refine j_i2l (pc := 528) C dL_law_528 ?_
      refine j_lcmp (pc := 529) C dL_law_529 ?_
      refine j_if_eq (pc := 530) C dL_law_530 (tgt := 535) (by decide) (fun hc112 => ?_) (fun hc112 => ?_)
      · refine j_goto (pc := 535) C dL_law_535 (tgt := 1686) (by decide) ?_
        refine j_iinc (pc := 1686) C dL_law_1686 rfl (v := (x4 + (5 : Int32))) rfl (Nat.le_of_ble_eq_true rfl) (ls' := [(4, .int (x4 + (5 : Int32))), (6, .int v108), (5, .int v105), (0, .ref sb), (1, .ref x1), (2, .ref x2), (3, .ref x3)]) rfl ?_
        refine j_goto (pc := 1689) C dL_law_1689 (tgt := 23) (by decide) ?_
        refine j_loc [3, 4, 5, 6, 0] rfl ?_
        exact h23 (ad9 κ (1, 6)) ⟨Nat.le_refl _, Nat.le_refl _⟩ x1 x2 x3 (x4 + (5 : Int32)) M109
      · refine j_iconst (pc := 533) C dL_law_533 (v := 0) rfl ?_
        exact j_zreturn (pc := 534) C rfl dL_law_534 (lk1 hk)
  · refine j_iconst (pc := 516) C dL_law_516 (v := 0) rfl ?_
    exact j_zreturn (pc := 517) C rfl dL_law_517 (lk1 hk)
def f_L_law_b402 (z : Sh9) (L : Nat) (xs : Nat → Int32) (r23 : Nat → Nat → Nat → Int32 → Mem9 → Re9) (x1 : Nat) (x2 : Nat) (x3 : Nat) (x4 : Int32) (M : Mem9) : Re9 :=
  ((sx9 L xs (x4 + (1 : Int32))).bind fun v87 => ((sx9 L xs (x4 + (2 : Int32))).bind fun v88 => ((sx9 L xs (x4 + (3 : Int32))).bind fun v89 => (bi9 (f_L_vehicle z x1 v87 v88 v89 x3 M) fun v91 M90 => ((sx9 L xs (x4 + (1 : Int32))).bind fun v92 => ((sx9 L xs (x4 + (2 : Int32))).bind fun v93 => ((sx9 L xs (x4 + (3 : Int32))).bind fun v94 => (bi9 (iv9 z x2 3 (f_X3_vehicle z x2 v92 v93 v94 M90)) fun v96 M95 => (bi9 (iv9 z x2 3 (f_X3_thrown z x2  M95)) fun v98 M97 => (if v98 = v91 then (if v91 = 0 then ((ld9 z M97 13 x3 (0 : Int32)).bind fun v99 => (if (lg_cmp (Int32.toInt64 v99) (Int32.toInt64 v96)) = 0 then (r23 x1 x2 x3 (x4 + (5 : Int32)) M97) else (rz9 (0 : Int32) M97))) else (r23 x1 x2 x3 (x4 + (5 : Int32)) M97)) else (rz9 (0 : Int32) M97)))))))))))
set_option maxRecDepth 20000 in
set_option maxHeartbeats 4000000 in
theorem t_L_law_b402 {z : Sh9} {sb L : Nat} {xs : Nat → Int32} {D : va_G} {ca : Nat → ClassId} {X : Cx9} {out : Out9 × Mem9} {cm κ : Ka9} (C : OK9 z (sb, L, xs, D, ca) X out 7 cm cL_law RL 11 2 []) (hk : le9 (ad9 (ad9 κ (1, 6)) (1, 6)) cm) (hco : le9 (co9 out.1) cm) {r23 : Nat → Nat → Nat → Int32 → Mem9 → Re9} (h23 : ∀ κ2 : Ka9, le9 κ2 (ad9 κ (1, 6)) → ∀ (x1 x2 x3 : Nat) (x4 : Int32) (M : Mem9), J9 z (sb, L, xs, D, ca) X out 7 23 [(0, .ref sb), (1, .ref x1), (2, .ref x2), (3, .ref x3), (4, .int x4)] [] M κ2 (r23 x1 x2 x3 x4 M)) (x1 : Nat) (x2 : Nat) (x3 : Nat) (x4 : Int32) (M : Mem9) : J9 z (sb, L, xs, D, ca) X out 7 402 [(0, .ref sb), (1, .ref x1), (2, .ref x2), (3, .ref x3), (4, .int x4)] [] M κ (f_L_law_b402 z L xs r23 x1 x2 x3 x4 M) := by
  refine j_aload_n (pc := 402) C dL_law_402 rfl ?_
  refine j_aload_n (pc := 403) C dL_law_403 rfl ?_
  refine j_iload (pc := 404) C dL_law_404 rfl ?_
  refine j_iconst (pc := 406) C dL_law_406 (v := 1) rfl ?_
  refine j_iadd (pc := 407) C dL_law_407 ?_
  refine j_sld (pc := 408) C dL_law_408 (fun v87 => ?_)
  refine j_aload_n (pc := 409) C dL_law_409 rfl ?_
  refine j_iload (pc := 410) C dL_law_410 rfl ?_
  refine j_iconst (pc := 412) C dL_law_412 (v := 2) rfl ?_
  refine j_iadd (pc := 413) C dL_law_413 ?_
  refine j_sld (pc := 414) C dL_law_414 (fun v88 => ?_)
  refine j_aload_n (pc := 415) C dL_law_415 rfl ?_
  refine j_iload (pc := 416) C dL_law_416 rfl ?_
  refine j_iconst (pc := 418) C dL_law_418 (v := 3) rfl ?_
  refine j_iadd (pc := 419) C dL_law_419 ?_
  refine j_sld (pc := 420) C dL_law_420 (fun v89 => ?_)
  refine j_aload_n (pc := 421) C dL_law_421 rfl ?_
  refine j_callWi (pc := 422) C rfl dL_law_422 lw_L_124 rfl (Nat.le_of_ble_eq_true rfl) (Nat.le_of_ble_eq_true rfl) (by decide) (lk1 hk) (fun l hl o ho => sp_L_vehicle hl ho) (fun v91 M90 => ?_)
  refine j_istore (pc := 425) C dL_law_425 (Nat.le_of_ble_eq_true rfl) (ls' := [(5, .int v91), (0, .ref sb), (1, .ref x1), (2, .ref x2), (3, .ref x3), (4, .int x4)]) rfl ?_
  refine j_aload_n (pc := 427) C dL_law_427 rfl ?_
  refine j_aload_n (pc := 428) C dL_law_428 rfl ?_
  refine j_iload (pc := 429) C dL_law_429 rfl ?_
  refine j_iconst (pc := 431) C dL_law_431 (v := 1) rfl ?_
  refine j_iadd (pc := 432) C dL_law_432 ?_
  refine j_sld (pc := 433) C dL_law_433 (fun v92 => ?_)
  refine j_aload_n (pc := 434) C dL_law_434 rfl ?_
  refine j_iload (pc := 435) C dL_law_435 rfl ?_
  refine j_iconst (pc := 437) C dL_law_437 (v := 2) rfl ?_
  refine j_iadd (pc := 438) C dL_law_438 ?_
  refine j_sld (pc := 439) C dL_law_439 (fun v93 => ?_)
  refine j_aload_n (pc := 440) C dL_law_440 rfl ?_
  refine j_iload (pc := 441) C dL_law_441 rfl ?_
  refine j_iconst (pc := 443) C dL_law_443 (v := 3) rfl ?_
  refine j_iadd (pc := 444) C dL_law_444 ?_
  refine j_sld (pc := 445) C dL_law_445 (fun v94 => ?_)
  refine j_callVi (pc := 446) C rfl dL_law_446 lv_L_127 rfl (Nat.le_of_ble_eq_true rfl) (Nat.le_of_ble_eq_true rfl) (by decide) (Or.inr hk) hco (fun l hl o ho => sp_X3_vehicle hl ho) (fun v96 M95 => ?_)
  refine j_istore (pc := 449) C dL_law_449 (Nat.le_of_ble_eq_true rfl) (ls' := [(6, .int v96), (5, .int v91), (0, .ref sb), (1, .ref x1), (2, .ref x2), (3, .ref x3), (4, .int x4)]) rfl ?_
  refine j_aload_n (pc := 451) C dL_law_451 rfl ?_
  refine j_callVi (pc := 452) C rfl dL_law_452 lv_L_102 rfl (Nat.le_of_ble_eq_true rfl) (Nat.le_of_ble_eq_true rfl) (by decide) (Or.inr hk) hco (fun l hl o ho => sp_X3_thrown hl ho) (fun v98 M97 => ?_)
  refine j_iload (pc := 455) C dL_law_455 rfl ?_
  refine j_icmp_eq (pc := 457) C dL_law_457 (tgt := 462) (by decide) (fun hc102 => ?_) (fun hc102 => ?_)
  · refine j_iload (pc := 462) C dL_law_462 rfl ?_
    refine j_if_ne (pc := 464) C dL_law_464 (tgt := 479) (by decide) (fun hc101 => ?_) (fun hc101 => ?_)
    · refine j_goto (pc := 479) C dL_law_479 (tgt := 1686) (by decide) ?_
      refine j_iinc (pc := 1686) C dL_law_1686 rfl (v := (x4 + (5 : Int32))) rfl (Nat.le_of_ble_eq_true rfl) (ls' := [(4, .int (x4 + (5 : Int32))), (6, .int v96), (5, .int v91), (0, .ref sb), (1, .ref x1), (2, .ref x2), (3, .ref x3)]) rfl ?_
      refine j_goto (pc := 1689) C dL_law_1689 (tgt := 23) (by decide) ?_
      refine j_loc [3, 4, 5, 6, 0] rfl ?_
      exact h23 (ad9 κ (1, 6)) ⟨Nat.le_refl _, Nat.le_refl _⟩ x1 x2 x3 (x4 + (5 : Int32)) M97
    · refine j_aload_n (pc := 467) C dL_law_467 rfl ?_
      refine j_iconst (pc := 468) C dL_law_468 (v := 0) rfl ?_
      refine j_laload (pc := 469) C dL_law_469 (fun v99 => ?_)
      refine j_iload (pc := 470) C dL_law_470 rfl ?_
      refine j_i2l (pc := 472) C dL_law_472 ?_
      refine j_lcmp (pc := 473) C dL_law_473 ?_
      refine j_if_eq (pc := 474) C dL_law_474 (tgt := 479) (by decide) (fun hc100 => ?_) (fun hc100 => ?_)
      · refine j_goto (pc := 479) C dL_law_479 (tgt := 1686) (by decide) ?_
        refine j_iinc (pc := 1686) C dL_law_1686 rfl (v := (x4 + (5 : Int32))) rfl (Nat.le_of_ble_eq_true rfl) (ls' := [(4, .int (x4 + (5 : Int32))), (6, .int v96), (5, .int v91), (0, .ref sb), (1, .ref x1), (2, .ref x2), (3, .ref x3)]) rfl ?_
        refine j_goto (pc := 1689) C dL_law_1689 (tgt := 23) (by decide) ?_
        refine j_loc [3, 4, 5, 6, 0] rfl ?_
        exact h23 (ad9 κ (1, 6)) ⟨Nat.le_refl _, Nat.le_refl _⟩ x1 x2 x3 (x4 + (5 : Int32)) M97
      · refine j_iconst (pc := 477) C dL_law_477 (v := 0) rfl ?_
        exact j_zreturn (pc := 478) C rfl dL_law_478 (lk1 hk)
  · refine j_iconst (pc := 460) C dL_law_460 (v := 0) rfl ?_
    exact j_zreturn (pc := 461) C rfl dL_law_461 (lk1 hk)
def f_L_law_b334 (z : Sh9) (L : Nat) (xs : Nat → Int32) (r23 : Nat → Nat → Nat → Int32 → Mem9 → Re9) (x1 : Nat) (x2 : Nat) (x3 : Nat) (x4 : Int32) (M : Mem9) : Re9 :=
  ((sx9 L xs (x4 + (1 : Int32))).bind fun v73 => ((sx9 L xs (x4 + (2 : Int32))).bind fun v74 => (bi9 (f_L_laneOf z x1 v73 v74 x3 M) fun v76 M75 => ((sx9 L xs (x4 + (1 : Int32))).bind fun v77 => ((sx9 L xs (x4 + (2 : Int32))).bind fun v78 => (bi9 (iv9 z x2 3 (f_X3_laneOf z x2 v77 v78 M75)) fun v80 M79 => (bi9 (iv9 z x2 3 (f_X3_thrown z x2  M79)) fun v82 M81 => (if v82 = v76 then (if v76 = 0 then ((ld9 z M81 13 x3 (0 : Int32)).bind fun v83 => (if (lg_cmp (Int32.toInt64 v83) (Int32.toInt64 v80)) = 0 then (r23 x1 x2 x3 (x4 + (5 : Int32)) M81) else (rz9 (0 : Int32) M81))) else (r23 x1 x2 x3 (x4 + (5 : Int32)) M81)) else (rz9 (0 : Int32) M81)))))))))
set_option maxRecDepth 20000 in
set_option maxHeartbeats 4000000 in
theorem t_L_law_b334 {z : Sh9} {sb L : Nat} {xs : Nat → Int32} {D : va_G} {ca : Nat → ClassId} {X : Cx9} {out : Out9 × Mem9} {cm κ : Ka9} (C : OK9 z (sb, L, xs, D, ca) X out 7 cm cL_law RL 11 2 []) (hk : le9 (ad9 (ad9 κ (1, 6)) (1, 6)) cm) (hco : le9 (co9 out.1) cm) {r23 : Nat → Nat → Nat → Int32 → Mem9 → Re9} (h23 : ∀ κ2 : Ka9, le9 κ2 (ad9 κ (1, 6)) → ∀ (x1 x2 x3 : Nat) (x4 : Int32) (M : Mem9), J9 z (sb, L, xs, D, ca) X out 7 23 [(0, .ref sb), (1, .ref x1), (2, .ref x2), (3, .ref x3), (4, .int x4)] [] M κ2 (r23 x1 x2 x3 x4 M)) (x1 : Nat) (x2 : Nat) (x3 : Nat) (x4 : Int32) (M : Mem9) : J9 z (sb, L, xs, D, ca) X out 7 334 [(0, .ref sb), (1, .ref x1), (2, .ref x2), (3, .ref x3), (4, .int x4)] [] M κ (f_L_law_b334 z L xs r23 x1 x2 x3 x4 M) := by
  refine j_aload_n (pc := 334) C dL_law_334 rfl ?_
  refine j_aload_n (pc := 335) C dL_law_335 rfl ?_
  refine j_iload (pc := 336) C dL_law_336 rfl ?_
  refine j_iconst (pc := 338) C dL_law_338 (v := 1) rfl ?_
  refine j_iadd (pc := 339) C dL_law_339 ?_
  refine j_sld (pc := 340) C dL_law_340 (fun v73 => ?_)
  refine j_aload_n (pc := 341) C dL_law_341 rfl ?_
  refine j_iload (pc := 342) C dL_law_342 rfl ?_
  refine j_iconst (pc := 344) C dL_law_344 (v := 2) rfl ?_
  refine j_iadd (pc := 345) C dL_law_345 ?_
  refine j_sld (pc := 346) C dL_law_346 (fun v74 => ?_)
  refine j_aload_n (pc := 347) C dL_law_347 rfl ?_
  refine j_callWi (pc := 348) C rfl dL_law_348 lw_L_120 rfl (Nat.le_of_ble_eq_true rfl) (Nat.le_of_ble_eq_true rfl) (by decide) (lk1 hk) (fun l hl o ho => sp_L_laneOf hl ho) (fun v76 M75 => ?_)
  refine j_istore (pc := 351) C dL_law_351 (Nat.le_of_ble_eq_true rfl) (ls' := [(5, .int v76), (0, .ref sb), (1, .ref x1), (2, .ref x2), (3, .ref x3), (4, .int x4)]) rfl ?_
  refine j_aload_n (pc := 353) C dL_law_353 rfl ?_
  refine j_aload_n (pc := 354) C dL_law_354 rfl ?_
  refine j_iload (pc := 355) C dL_law_355 rfl ?_
  refine j_iconst (pc := 357) C dL_law_357 (v := 1) rfl ?_
  refine j_iadd (pc := 358) C dL_law_358 ?_
  refine j_sld (pc := 359) C dL_law_359 (fun v77 => ?_)
  refine j_aload_n (pc := 360) C dL_law_360 rfl ?_
  refine j_iload (pc := 361) C dL_law_361 rfl ?_
  refine j_iconst (pc := 363) C dL_law_363 (v := 2) rfl ?_
  refine j_iadd (pc := 364) C dL_law_364 ?_
  refine j_sld (pc := 365) C dL_law_365 (fun v78 => ?_)
  refine j_callVi (pc := 366) C rfl dL_law_366 lv_L_123 rfl (Nat.le_of_ble_eq_true rfl) (Nat.le_of_ble_eq_true rfl) (by decide) (Or.inr hk) hco (fun l hl o ho => sp_X3_laneOf hl ho) (fun v80 M79 => ?_)
  refine j_istore (pc := 369) C dL_law_369 (Nat.le_of_ble_eq_true rfl) (ls' := [(6, .int v80), (5, .int v76), (0, .ref sb), (1, .ref x1), (2, .ref x2), (3, .ref x3), (4, .int x4)]) rfl ?_
  refine j_aload_n (pc := 371) C dL_law_371 rfl ?_
  refine j_callVi (pc := 372) C rfl dL_law_372 lv_L_102 rfl (Nat.le_of_ble_eq_true rfl) (Nat.le_of_ble_eq_true rfl) (by decide) (Or.inr hk) hco (fun l hl o ho => sp_X3_thrown hl ho) (fun v82 M81 => ?_)
  refine j_iload (pc := 375) C dL_law_375 rfl ?_
  refine j_icmp_eq (pc := 377) C dL_law_377 (tgt := 382) (by decide) (fun hc86 => ?_) (fun hc86 => ?_)
  · refine j_iload (pc := 382) C dL_law_382 rfl ?_
    refine j_if_ne (pc := 384) C dL_law_384 (tgt := 399) (by decide) (fun hc85 => ?_) (fun hc85 => ?_)
    · refine j_goto (pc := 399) C dL_law_399 (tgt := 1686) (by decide) ?_
      refine j_iinc (pc := 1686) C dL_law_1686 rfl (v := (x4 + (5 : Int32))) rfl (Nat.le_of_ble_eq_true rfl) (ls' := [(4, .int (x4 + (5 : Int32))), (6, .int v80), (5, .int v76), (0, .ref sb), (1, .ref x1), (2, .ref x2), (3, .ref x3)]) rfl ?_
      refine j_goto (pc := 1689) C dL_law_1689 (tgt := 23) (by decide) ?_
      refine j_loc [3, 4, 5, 6, 0] rfl ?_
      exact h23 (ad9 κ (1, 6)) ⟨Nat.le_refl _, Nat.le_refl _⟩ x1 x2 x3 (x4 + (5 : Int32)) M81
    · refine j_aload_n (pc := 387) C dL_law_387 rfl ?_
      refine j_iconst (pc := 388) C dL_law_388 (v := 0) rfl ?_
      refine j_laload (pc := 389) C dL_law_389 (fun v83 => ?_)
      refine j_iload (pc := 390) C dL_law_390 rfl ?_
      refine j_i2l (pc := 392) C dL_law_392 ?_
      refine j_lcmp (pc := 393) C dL_law_393 ?_
      refine j_if_eq (pc := 394) C dL_law_394 (tgt := 399) (by decide) (fun hc84 => ?_) (fun hc84 => ?_)
      · refine j_goto (pc := 399) C dL_law_399 (tgt := 1686) (by decide) ?_
        refine j_iinc (pc := 1686) C dL_law_1686 rfl (v := (x4 + (5 : Int32))) rfl (Nat.le_of_ble_eq_true rfl) (ls' := [(4, .int (x4 + (5 : Int32))), (6, .int v80), (5, .int v76), (0, .ref sb), (1, .ref x1), (2, .ref x2), (3, .ref x3)]) rfl ?_
        refine j_goto (pc := 1689) C dL_law_1689 (tgt := 23) (by decide) ?_
        refine j_loc [3, 4, 5, 6, 0] rfl ?_
        exact h23 (ad9 κ (1, 6)) ⟨Nat.le_refl _, Nat.le_refl _⟩ x1 x2 x3 (x4 + (5 : Int32)) M81
      · refine j_iconst (pc := 397) C dL_law_397 (v := 0) rfl ?_
        exact j_zreturn (pc := 398) C rfl dL_law_398 (lk1 hk)
  · refine j_iconst (pc := 380) C dL_law_380 (v := 0) rfl ?_
    exact j_zreturn (pc := 381) C rfl dL_law_381 (lk1 hk)
def f_L_law_b278 (z : Sh9) (L : Nat) (xs : Nat → Int32) (r23 : Nat → Nat → Nat → Int32 → Mem9 → Re9) (x1 : Nat) (x2 : Nat) (x3 : Nat) (x4 : Int32) (M : Mem9) : Re9 :=
  ((sx9 L xs (x4 + (1 : Int32))).bind fun v61 => (bi9 (f_L_about z x1 v61 x3 M) fun v63 M62 => ((sx9 L xs (x4 + (1 : Int32))).bind fun v64 => (bi9 (iv9 z x2 3 (f_X3_about z x2 v64 M62)) fun v66 M65 => (bi9 (iv9 z x2 3 (f_X3_thrown z x2  M65)) fun v68 M67 => (if v68 = v63 then (if v63 = 0 then ((ld9 z M67 13 x3 (0 : Int32)).bind fun v69 => (if (lg_cmp (Int32.toInt64 v69) (Int32.toInt64 v66)) = 0 then (r23 x1 x2 x3 (x4 + (5 : Int32)) M67) else (rz9 (0 : Int32) M67))) else (r23 x1 x2 x3 (x4 + (5 : Int32)) M67)) else (rz9 (0 : Int32) M67)))))))
set_option maxRecDepth 20000 in
set_option maxHeartbeats 4000000 in
theorem t_L_law_b278 {z : Sh9} {sb L : Nat} {xs : Nat → Int32} {D : va_G} {ca : Nat → ClassId} {X : Cx9} {out : Out9 × Mem9} {cm κ : Ka9} (C : OK9 z (sb, L, xs, D, ca) X out 7 cm cL_law RL 11 2 []) (hk : le9 (ad9 (ad9 κ (1, 6)) (1, 6)) cm) (hco : le9 (co9 out.1) cm) {r23 : Nat → Nat → Nat → Int32 → Mem9 → Re9} (h23 : ∀ κ2 : Ka9, le9 κ2 (ad9 κ (1, 6)) → ∀ (x1 x2 x3 : Nat) (x4 : Int32) (M : Mem9), J9 z (sb, L, xs, D, ca) X out 7 23 [(0, .ref sb), (1, .ref x1), (2, .ref x2), (3, .ref x3), (4, .int x4)] [] M κ2 (r23 x1 x2 x3 x4 M)) (x1 : Nat) (x2 : Nat) (x3 : Nat) (x4 : Int32) (M : Mem9) : J9 z (sb, L, xs, D, ca) X out 7 278 [(0, .ref sb), (1, .ref x1), (2, .ref x2), (3, .ref x3), (4, .int x4)] [] M κ (f_L_law_b278 z L xs r23 x1 x2 x3 x4 M) := by
  refine j_aload_n (pc := 278) C dL_law_278 rfl ?_
  refine j_aload_n (pc := 279) C dL_law_279 rfl ?_
  refine j_iload (pc := 280) C dL_law_280 rfl ?_
  refine j_iconst (pc := 282) C dL_law_282 (v := 1) rfl ?_
  refine j_iadd (pc := 283) C dL_law_283 ?_
  refine j_sld (pc := 284) C dL_law_284 (fun v61 => ?_)
  refine j_aload_n (pc := 285) C dL_law_285 rfl ?_
  refine j_callWi (pc := 286) C rfl dL_law_286 lw_L_117 rfl (Nat.le_of_ble_eq_true rfl) (Nat.le_of_ble_eq_true rfl) (by decide) (lk1 hk) (fun l hl o ho => sp_L_about hl ho) (fun v63 M62 => ?_)
  refine j_istore (pc := 289) C dL_law_289 (Nat.le_of_ble_eq_true rfl) (ls' := [(5, .int v63), (0, .ref sb), (1, .ref x1), (2, .ref x2), (3, .ref x3), (4, .int x4)]) rfl ?_
  refine j_aload_n (pc := 291) C dL_law_291 rfl ?_
  refine j_aload_n (pc := 292) C dL_law_292 rfl ?_
  refine j_iload (pc := 293) C dL_law_293 rfl ?_
  refine j_iconst (pc := 295) C dL_law_295 (v := 1) rfl ?_
  refine j_iadd (pc := 296) C dL_law_296 ?_
  refine j_sld (pc := 297) C dL_law_297 (fun v64 => ?_)
  refine j_callVi (pc := 298) C rfl dL_law_298 lv_L_119 rfl (Nat.le_of_ble_eq_true rfl) (Nat.le_of_ble_eq_true rfl) (by decide) (Or.inr hk) hco (fun l hl o ho => sp_X3_about hl ho) (fun v66 M65 => ?_)
  refine j_istore (pc := 301) C dL_law_301 (Nat.le_of_ble_eq_true rfl) (ls' := [(6, .int v66), (5, .int v63), (0, .ref sb), (1, .ref x1), (2, .ref x2), (3, .ref x3), (4, .int x4)]) rfl ?_
  refine j_aload_n (pc := 303) C dL_law_303 rfl ?_
  refine j_callVi (pc := 304) C rfl dL_law_304 lv_L_102 rfl (Nat.le_of_ble_eq_true rfl) (Nat.le_of_ble_eq_true rfl) (by decide) (Or.inr hk) hco (fun l hl o ho => sp_X3_thrown hl ho) (fun v68 M67 => ?_)
  refine j_iload (pc := 307) C dL_law_307 rfl ?_
  refine j_icmp_eq (pc := 309) C dL_law_309 (tgt := 314) (by decide) (fun hc72 => ?_) (fun hc72 => ?_)
  · refine j_iload (pc := 314) C dL_law_314 rfl ?_
    refine j_if_ne (pc := 316) C dL_law_316 (tgt := 331) (by decide) (fun hc71 => ?_) (fun hc71 => ?_)
    · refine j_goto (pc := 331) C dL_law_331 (tgt := 1686) (by decide) ?_
      refine j_iinc (pc := 1686) C dL_law_1686 rfl (v := (x4 + (5 : Int32))) rfl (Nat.le_of_ble_eq_true rfl) (ls' := [(4, .int (x4 + (5 : Int32))), (6, .int v66), (5, .int v63), (0, .ref sb), (1, .ref x1), (2, .ref x2), (3, .ref x3)]) rfl ?_
      refine j_goto (pc := 1689) C dL_law_1689 (tgt := 23) (by decide) ?_
      refine j_loc [3, 4, 5, 6, 0] rfl ?_
      exact h23 (ad9 κ (1, 6)) ⟨Nat.le_refl _, Nat.le_refl _⟩ x1 x2 x3 (x4 + (5 : Int32)) M67
    · refine j_aload_n (pc := 319) C dL_law_319 rfl ?_
      refine j_iconst (pc := 320) C dL_law_320 (v := 0) rfl ?_
      refine j_laload (pc := 321) C dL_law_321 (fun v69 => ?_)
      refine j_iload (pc := 322) C dL_law_322 rfl ?_
      refine j_i2l (pc := 324) C dL_law_324 ?_
      refine j_lcmp (pc := 325) C dL_law_325 ?_
      refine j_if_eq (pc := 326) C dL_law_326 (tgt := 331) (by decide) (fun hc70 => ?_) (fun hc70 => ?_)
      · refine j_goto (pc := 331) C dL_law_331 (tgt := 1686) (by decide) ?_
        refine j_iinc (pc := 1686) C dL_law_1686 rfl (v := (x4 + (5 : Int32))) rfl (Nat.le_of_ble_eq_true rfl) (ls' := [(4, .int (x4 + (5 : Int32))), (6, .int v66), (5, .int v63), (0, .ref sb), (1, .ref x1), (2, .ref x2), (3, .ref x3)]) rfl ?_
        refine j_goto (pc := 1689) C dL_law_1689 (tgt := 23) (by decide) ?_
        refine j_loc [3, 4, 5, 6, 0] rfl ?_
        exact h23 (ad9 κ (1, 6)) ⟨Nat.le_refl _, Nat.le_refl _⟩ x1 x2 x3 (x4 + (5 : Int32)) M67
      · refine j_iconst (pc := 329) C dL_law_329 (v := 0) rfl ?_
        exact j_zreturn (pc := 330) C rfl dL_law_330 (lk1 hk)
  · refine j_iconst (pc := 312) C dL_law_312 (v := 0) rfl ?_
    exact j_zreturn (pc := 313) C rfl dL_law_313 (lk1 hk)
def f_L_law_b234 (z : Sh9) (L : Nat) (xs : Nat → Int32) (r23 : Nat → Nat → Nat → Int32 → Mem9 → Re9) (x1 : Nat) (x2 : Nat) (x3 : Nat) (x4 : Int32) (M : Mem9) : Re9 :=
  (bi9 (f_L_load z x1 x3 M) fun v52 M51 => (bi9 (iv9 z x2 3 (f_X3_load z x2  M51)) fun v54 M53 => (bi9 (iv9 z x2 3 (f_X3_thrown z x2  M53)) fun v56 M55 => (if v56 = v52 then (if v52 = 0 then ((ld9 z M55 13 x3 (0 : Int32)).bind fun v57 => (if (lg_cmp (Int32.toInt64 v57) (Int32.toInt64 v54)) = 0 then (r23 x1 x2 x3 (x4 + (5 : Int32)) M55) else (rz9 (0 : Int32) M55))) else (r23 x1 x2 x3 (x4 + (5 : Int32)) M55)) else (rz9 (0 : Int32) M55)))))
set_option maxRecDepth 20000 in
set_option maxHeartbeats 4000000 in
theorem t_L_law_b234 {z : Sh9} {sb L : Nat} {xs : Nat → Int32} {D : va_G} {ca : Nat → ClassId} {X : Cx9} {out : Out9 × Mem9} {cm κ : Ka9} (C : OK9 z (sb, L, xs, D, ca) X out 7 cm cL_law RL 11 2 []) (hk : le9 (ad9 (ad9 κ (1, 6)) (1, 6)) cm) (hco : le9 (co9 out.1) cm) {r23 : Nat → Nat → Nat → Int32 → Mem9 → Re9} (h23 : ∀ κ2 : Ka9, le9 κ2 (ad9 κ (1, 6)) → ∀ (x1 x2 x3 : Nat) (x4 : Int32) (M : Mem9), J9 z (sb, L, xs, D, ca) X out 7 23 [(0, .ref sb), (1, .ref x1), (2, .ref x2), (3, .ref x3), (4, .int x4)] [] M κ2 (r23 x1 x2 x3 x4 M)) (x1 : Nat) (x2 : Nat) (x3 : Nat) (x4 : Int32) (M : Mem9) : J9 z (sb, L, xs, D, ca) X out 7 234 [(0, .ref sb), (1, .ref x1), (2, .ref x2), (3, .ref x3), (4, .int x4)] [] M κ (f_L_law_b234 z L xs r23 x1 x2 x3 x4 M) := by
  refine j_aload_n (pc := 234) C dL_law_234 rfl ?_
  refine j_aload_n (pc := 235) C dL_law_235 rfl ?_
  refine j_callWi (pc := 236) C rfl dL_law_236 lw_L_113 rfl (Nat.le_of_ble_eq_true rfl) (Nat.le_of_ble_eq_true rfl) (by decide) (lk1 hk) (fun l hl o ho => sp_L_load hl ho) (fun v52 M51 => ?_)
  refine j_istore (pc := 239) C dL_law_239 (Nat.le_of_ble_eq_true rfl) (ls' := [(5, .int v52), (0, .ref sb), (1, .ref x1), (2, .ref x2), (3, .ref x3), (4, .int x4)]) rfl ?_
  refine j_aload_n (pc := 241) C dL_law_241 rfl ?_
  refine j_callVi (pc := 242) C rfl dL_law_242 lv_L_116 rfl (Nat.le_of_ble_eq_true rfl) (Nat.le_of_ble_eq_true rfl) (by decide) (Or.inr hk) hco (fun l hl o ho => sp_X3_load hl ho) (fun v54 M53 => ?_)
  refine j_istore (pc := 245) C dL_law_245 (Nat.le_of_ble_eq_true rfl) (ls' := [(6, .int v54), (5, .int v52), (0, .ref sb), (1, .ref x1), (2, .ref x2), (3, .ref x3), (4, .int x4)]) rfl ?_
  refine j_aload_n (pc := 247) C dL_law_247 rfl ?_
  refine j_callVi (pc := 248) C rfl dL_law_248 lv_L_102 rfl (Nat.le_of_ble_eq_true rfl) (Nat.le_of_ble_eq_true rfl) (by decide) (Or.inr hk) hco (fun l hl o ho => sp_X3_thrown hl ho) (fun v56 M55 => ?_)
  refine j_iload (pc := 251) C dL_law_251 rfl ?_
  refine j_icmp_eq (pc := 253) C dL_law_253 (tgt := 258) (by decide) (fun hc60 => ?_) (fun hc60 => ?_)
  · refine j_iload (pc := 258) C dL_law_258 rfl ?_
    refine j_if_ne (pc := 260) C dL_law_260 (tgt := 275) (by decide) (fun hc59 => ?_) (fun hc59 => ?_)
    · refine j_goto (pc := 275) C dL_law_275 (tgt := 1686) (by decide) ?_
      refine j_iinc (pc := 1686) C dL_law_1686 rfl (v := (x4 + (5 : Int32))) rfl (Nat.le_of_ble_eq_true rfl) (ls' := [(4, .int (x4 + (5 : Int32))), (6, .int v54), (5, .int v52), (0, .ref sb), (1, .ref x1), (2, .ref x2), (3, .ref x3)]) rfl ?_
      refine j_goto (pc := 1689) C dL_law_1689 (tgt := 23) (by decide) ?_
      refine j_loc [3, 4, 5, 6, 0] rfl ?_
      exact h23 (ad9 κ (1, 6)) ⟨Nat.le_refl _, Nat.le_refl _⟩ x1 x2 x3 (x4 + (5 : Int32)) M55
    · refine j_aload_n (pc := 263) C dL_law_263 rfl ?_
      refine j_iconst (pc := 264) C dL_law_264 (v := 0) rfl ?_
      refine j_laload (pc := 265) C dL_law_265 (fun v57 => ?_)
      refine j_iload (pc := 266) C dL_law_266 rfl ?_
      refine j_i2l (pc := 268) C dL_law_268 ?_
      refine j_lcmp (pc := 269) C dL_law_269 ?_
      refine j_if_eq (pc := 270) C dL_law_270 (tgt := 275) (by decide) (fun hc58 => ?_) (fun hc58 => ?_)
      · refine j_goto (pc := 275) C dL_law_275 (tgt := 1686) (by decide) ?_
        refine j_iinc (pc := 1686) C dL_law_1686 rfl (v := (x4 + (5 : Int32))) rfl (Nat.le_of_ble_eq_true rfl) (ls' := [(4, .int (x4 + (5 : Int32))), (6, .int v54), (5, .int v52), (0, .ref sb), (1, .ref x1), (2, .ref x2), (3, .ref x3)]) rfl ?_
        refine j_goto (pc := 1689) C dL_law_1689 (tgt := 23) (by decide) ?_
        refine j_loc [3, 4, 5, 6, 0] rfl ?_
        exact h23 (ad9 κ (1, 6)) ⟨Nat.le_refl _, Nat.le_refl _⟩ x1 x2 x3 (x4 + (5 : Int32)) M55
      · refine j_iconst (pc := 273) C dL_law_273 (v := 0) rfl ?_
        exact j_zreturn (pc := 274) C rfl dL_law_274 (lk1 hk)
  · refine j_iconst (pc := 256) C dL_law_256 (v := 0) rfl ?_
    exact j_zreturn (pc := 257) C rfl dL_law_257 (lk1 hk)
def f_L_law_b221 (z : Sh9) (L : Nat) (xs : Nat → Int32) (r23 : Nat → Nat → Nat → Int32 → Mem9 → Re9) (x1 : Nat) (x2 : Nat) (x3 : Nat) (x4 : Int32) (M : Mem9) : Re9 :=
  (bi9 (iv9 z x1 2 (f_X2_errorPosition z x1  M)) fun v47 M46 => (bi9 (iv9 z x2 3 (f_X3_errorPosition z x2  M46)) fun v49 M48 => (if v47 = v49 then (r23 x1 x2 x3 (x4 + (5 : Int32)) M48) else (rz9 (0 : Int32) M48))))
set_option maxRecDepth 20000 in
set_option maxHeartbeats 4000000 in
theorem t_L_law_b221 {z : Sh9} {sb L : Nat} {xs : Nat → Int32} {D : va_G} {ca : Nat → ClassId} {X : Cx9} {out : Out9 × Mem9} {cm κ : Ka9} (C : OK9 z (sb, L, xs, D, ca) X out 7 cm cL_law RL 11 2 []) (hk : le9 (ad9 (ad9 κ (1, 6)) (1, 6)) cm) (hco : le9 (co9 out.1) cm) {r23 : Nat → Nat → Nat → Int32 → Mem9 → Re9} (h23 : ∀ κ2 : Ka9, le9 κ2 (ad9 κ (1, 6)) → ∀ (x1 x2 x3 : Nat) (x4 : Int32) (M : Mem9), J9 z (sb, L, xs, D, ca) X out 7 23 [(0, .ref sb), (1, .ref x1), (2, .ref x2), (3, .ref x3), (4, .int x4)] [] M κ2 (r23 x1 x2 x3 x4 M)) (x1 : Nat) (x2 : Nat) (x3 : Nat) (x4 : Int32) (M : Mem9) : J9 z (sb, L, xs, D, ca) X out 7 221 [(0, .ref sb), (1, .ref x1), (2, .ref x2), (3, .ref x3), (4, .int x4)] [] M κ (f_L_law_b221 z L xs r23 x1 x2 x3 x4 M) := by
  refine j_aload_n (pc := 221) C dL_law_221 rfl ?_
  refine j_callVi (pc := 222) C rfl dL_law_222 lv_L_109 rfl (Nat.le_of_ble_eq_true rfl) (Nat.le_of_ble_eq_true rfl) (by decide) (Or.inr (lk1 hk)) hco (fun l hl o ho => sp_X2_errorPosition hl ho) (fun v47 M46 => ?_)
  refine j_aload_n (pc := 225) C dL_law_225 rfl ?_
  refine j_callVi (pc := 226) C rfl dL_law_226 lv_L_112 rfl (Nat.le_of_ble_eq_true rfl) (Nat.le_of_ble_eq_true rfl) (by decide) (Or.inr (lk1 hk)) hco (fun l hl o ho => sp_X3_errorPosition hl ho) (fun v49 M48 => ?_)
  refine j_icmp_eq (pc := 229) C dL_law_229 (tgt := 1686) (by decide) (fun hc50 => ?_) (fun hc50 => ?_)
  · refine j_iinc (pc := 1686) C dL_law_1686 rfl (v := (x4 + (5 : Int32))) rfl (Nat.le_of_ble_eq_true rfl) (ls' := [(4, .int (x4 + (5 : Int32))), (0, .ref sb), (1, .ref x1), (2, .ref x2), (3, .ref x3)]) rfl ?_
    refine j_goto (pc := 1689) C dL_law_1689 (tgt := 23) (by decide) ?_
    refine j_loc [1, 2, 3, 4, 0] rfl ?_
    exact h23 κ ⟨Nat.le_add_right _ _, Nat.le_add_right _ _⟩ x1 x2 x3 (x4 + (5 : Int32)) M48
  · refine j_iconst (pc := 232) C dL_law_232 (v := 0) rfl ?_
    exact j_zreturn (pc := 233) C rfl dL_law_233 (lk0 hk)
def f_L_law_b208 (z : Sh9) (L : Nat) (xs : Nat → Int32) (r23 : Nat → Nat → Nat → Int32 → Mem9 → Re9) (x1 : Nat) (x2 : Nat) (x3 : Nat) (x4 : Int32) (M : Mem9) : Re9 :=
  (bi9 (iv9 z x1 2 (f_X2_clearText z x1  M)) fun v42 M41 => (bi9 (iv9 z x2 3 (f_X3_clearText z x2  M41)) fun v44 M43 => (if v42 = v44 then (r23 x1 x2 x3 (x4 + (5 : Int32)) M43) else (rz9 (0 : Int32) M43))))
set_option maxRecDepth 20000 in
set_option maxHeartbeats 4000000 in
theorem t_L_law_b208 {z : Sh9} {sb L : Nat} {xs : Nat → Int32} {D : va_G} {ca : Nat → ClassId} {X : Cx9} {out : Out9 × Mem9} {cm κ : Ka9} (C : OK9 z (sb, L, xs, D, ca) X out 7 cm cL_law RL 11 2 []) (hk : le9 (ad9 (ad9 κ (1, 6)) (1, 6)) cm) (hco : le9 (co9 out.1) cm) {r23 : Nat → Nat → Nat → Int32 → Mem9 → Re9} (h23 : ∀ κ2 : Ka9, le9 κ2 (ad9 κ (1, 6)) → ∀ (x1 x2 x3 : Nat) (x4 : Int32) (M : Mem9), J9 z (sb, L, xs, D, ca) X out 7 23 [(0, .ref sb), (1, .ref x1), (2, .ref x2), (3, .ref x3), (4, .int x4)] [] M κ2 (r23 x1 x2 x3 x4 M)) (x1 : Nat) (x2 : Nat) (x3 : Nat) (x4 : Int32) (M : Mem9) : J9 z (sb, L, xs, D, ca) X out 7 208 [(0, .ref sb), (1, .ref x1), (2, .ref x2), (3, .ref x3), (4, .int x4)] [] M κ (f_L_law_b208 z L xs r23 x1 x2 x3 x4 M) := by
  refine j_aload_n (pc := 208) C dL_law_208 rfl ?_
  refine j_callVi (pc := 209) C rfl dL_law_209 lv_L_105 rfl (Nat.le_of_ble_eq_true rfl) (Nat.le_of_ble_eq_true rfl) (by decide) (Or.inr (lk1 hk)) hco (fun l hl o ho => sp_X2_clearText hl ho) (fun v42 M41 => ?_)
  refine j_aload_n (pc := 212) C dL_law_212 rfl ?_
  refine j_callVi (pc := 213) C rfl dL_law_213 lv_L_108 rfl (Nat.le_of_ble_eq_true rfl) (Nat.le_of_ble_eq_true rfl) (by decide) (Or.inr (lk1 hk)) hco (fun l hl o ho => sp_X3_clearText hl ho) (fun v44 M43 => ?_)
  refine j_icmp_eq (pc := 216) C dL_law_216 (tgt := 1686) (by decide) (fun hc45 => ?_) (fun hc45 => ?_)
  · refine j_iinc (pc := 1686) C dL_law_1686 rfl (v := (x4 + (5 : Int32))) rfl (Nat.le_of_ble_eq_true rfl) (ls' := [(4, .int (x4 + (5 : Int32))), (0, .ref sb), (1, .ref x1), (2, .ref x2), (3, .ref x3)]) rfl ?_
    refine j_goto (pc := 1689) C dL_law_1689 (tgt := 23) (by decide) ?_
    refine j_loc [1, 2, 3, 4, 0] rfl ?_
    exact h23 κ ⟨Nat.le_add_right _ _, Nat.le_add_right _ _⟩ x1 x2 x3 (x4 + (5 : Int32)) M43
  · refine j_iconst (pc := 219) C dL_law_219 (v := 0) rfl ?_
    exact j_zreturn (pc := 220) C rfl dL_law_220 (lk0 hk)
def f_L_law_b152 (z : Sh9) (L : Nat) (xs : Nat → Int32) (r23 : Nat → Nat → Nat → Int32 → Mem9 → Re9) (x1 : Nat) (x2 : Nat) (x3 : Nat) (x4 : Int32) (M : Mem9) : Re9 :=
  ((sx9 L xs (x4 + (1 : Int32))).bind fun v29 => (bi9 (f_L_append z x1 v29 x3 M) fun v31 M30 => ((sx9 L xs (x4 + (1 : Int32))).bind fun v32 => (bi9 (iv9 z x2 3 (f_X3_append z x2 v32 M30)) fun v34 M33 => (bi9 (iv9 z x2 3 (f_X3_thrown z x2  M33)) fun v36 M35 => (if v36 = v31 then (if v31 = 0 then ((ld9 z M35 13 x3 (0 : Int32)).bind fun v37 => (if (lg_cmp (Int32.toInt64 v37) (Int32.toInt64 v34)) = 0 then (r23 x1 x2 x3 (x4 + (5 : Int32)) M35) else (rz9 (0 : Int32) M35))) else (r23 x1 x2 x3 (x4 + (5 : Int32)) M35)) else (rz9 (0 : Int32) M35)))))))
set_option maxRecDepth 20000 in
set_option maxHeartbeats 4000000 in
theorem t_L_law_b152 {z : Sh9} {sb L : Nat} {xs : Nat → Int32} {D : va_G} {ca : Nat → ClassId} {X : Cx9} {out : Out9 × Mem9} {cm κ : Ka9} (C : OK9 z (sb, L, xs, D, ca) X out 7 cm cL_law RL 11 2 []) (hk : le9 (ad9 (ad9 κ (1, 6)) (1, 6)) cm) (hco : le9 (co9 out.1) cm) {r23 : Nat → Nat → Nat → Int32 → Mem9 → Re9} (h23 : ∀ κ2 : Ka9, le9 κ2 (ad9 κ (1, 6)) → ∀ (x1 x2 x3 : Nat) (x4 : Int32) (M : Mem9), J9 z (sb, L, xs, D, ca) X out 7 23 [(0, .ref sb), (1, .ref x1), (2, .ref x2), (3, .ref x3), (4, .int x4)] [] M κ2 (r23 x1 x2 x3 x4 M)) (x1 : Nat) (x2 : Nat) (x3 : Nat) (x4 : Int32) (M : Mem9) : J9 z (sb, L, xs, D, ca) X out 7 152 [(0, .ref sb), (1, .ref x1), (2, .ref x2), (3, .ref x3), (4, .int x4)] [] M κ (f_L_law_b152 z L xs r23 x1 x2 x3 x4 M) := by
  refine j_aload_n (pc := 152) C dL_law_152 rfl ?_
  refine j_aload_n (pc := 153) C dL_law_153 rfl ?_
  refine j_iload (pc := 154) C dL_law_154 rfl ?_
  refine j_iconst (pc := 156) C dL_law_156 (v := 1) rfl ?_
  refine j_iadd (pc := 157) C dL_law_157 ?_
  refine j_sld (pc := 158) C dL_law_158 (fun v29 => ?_)
  refine j_aload_n (pc := 159) C dL_law_159 rfl ?_
  refine j_callWi (pc := 160) C rfl dL_law_160 lw_L_96 rfl (Nat.le_of_ble_eq_true rfl) (Nat.le_of_ble_eq_true rfl) (by decide) (lk1 hk) (fun l hl o ho => sp_L_append hl ho) (fun v31 M30 => ?_)
  refine j_istore (pc := 163) C dL_law_163 (Nat.le_of_ble_eq_true rfl) (ls' := [(5, .int v31), (0, .ref sb), (1, .ref x1), (2, .ref x2), (3, .ref x3), (4, .int x4)]) rfl ?_
  refine j_aload_n (pc := 165) C dL_law_165 rfl ?_
  refine j_aload_n (pc := 166) C dL_law_166 rfl ?_
  refine j_iload (pc := 167) C dL_law_167 rfl ?_
  refine j_iconst (pc := 169) C dL_law_169 (v := 1) rfl ?_
  refine j_iadd (pc := 170) C dL_law_170 ?_
  refine j_sld (pc := 171) C dL_law_171 (fun v32 => ?_)
  refine j_callVi (pc := 172) C rfl dL_law_172 lv_L_101 rfl (Nat.le_of_ble_eq_true rfl) (Nat.le_of_ble_eq_true rfl) (by decide) (Or.inr hk) hco (fun l hl o ho => sp_X3_append hl ho) (fun v34 M33 => ?_)
  refine j_istore (pc := 175) C dL_law_175 (Nat.le_of_ble_eq_true rfl) (ls' := [(6, .int v34), (5, .int v31), (0, .ref sb), (1, .ref x1), (2, .ref x2), (3, .ref x3), (4, .int x4)]) rfl ?_
  refine j_aload_n (pc := 177) C dL_law_177 rfl ?_
  refine j_callVi (pc := 178) C rfl dL_law_178 lv_L_102 rfl (Nat.le_of_ble_eq_true rfl) (Nat.le_of_ble_eq_true rfl) (by decide) (Or.inr hk) hco (fun l hl o ho => sp_X3_thrown hl ho) (fun v36 M35 => ?_)
  refine j_iload (pc := 181) C dL_law_181 rfl ?_
  refine j_icmp_eq (pc := 183) C dL_law_183 (tgt := 188) (by decide) (fun hc40 => ?_) (fun hc40 => ?_)
  · refine j_iload (pc := 188) C dL_law_188 rfl ?_
    refine j_if_ne (pc := 190) C dL_law_190 (tgt := 205) (by decide) (fun hc39 => ?_) (fun hc39 => ?_)
    · refine j_goto (pc := 205) C dL_law_205 (tgt := 1686) (by decide) ?_
      refine j_iinc (pc := 1686) C dL_law_1686 rfl (v := (x4 + (5 : Int32))) rfl (Nat.le_of_ble_eq_true rfl) (ls' := [(4, .int (x4 + (5 : Int32))), (6, .int v34), (5, .int v31), (0, .ref sb), (1, .ref x1), (2, .ref x2), (3, .ref x3)]) rfl ?_
      refine j_goto (pc := 1689) C dL_law_1689 (tgt := 23) (by decide) ?_
      refine j_loc [3, 4, 5, 6, 0] rfl ?_
      exact h23 (ad9 κ (1, 6)) ⟨Nat.le_refl _, Nat.le_refl _⟩ x1 x2 x3 (x4 + (5 : Int32)) M35
    · refine j_aload_n (pc := 193) C dL_law_193 rfl ?_
      refine j_iconst (pc := 194) C dL_law_194 (v := 0) rfl ?_
      refine j_laload (pc := 195) C dL_law_195 (fun v37 => ?_)
      refine j_iload (pc := 196) C dL_law_196 rfl ?_
      refine j_i2l (pc := 198) C dL_law_198 ?_
      refine j_lcmp (pc := 199) C dL_law_199 ?_
      refine j_if_eq (pc := 200) C dL_law_200 (tgt := 205) (by decide) (fun hc38 => ?_) (fun hc38 => ?_)
      · refine j_goto (pc := 205) C dL_law_205 (tgt := 1686) (by decide) ?_
        refine j_iinc (pc := 1686) C dL_law_1686 rfl (v := (x4 + (5 : Int32))) rfl (Nat.le_of_ble_eq_true rfl) (ls' := [(4, .int (x4 + (5 : Int32))), (6, .int v34), (5, .int v31), (0, .ref sb), (1, .ref x1), (2, .ref x2), (3, .ref x3)]) rfl ?_
        refine j_goto (pc := 1689) C dL_law_1689 (tgt := 23) (by decide) ?_
        refine j_loc [3, 4, 5, 6, 0] rfl ?_
        exact h23 (ad9 κ (1, 6)) ⟨Nat.le_refl _, Nat.le_refl _⟩ x1 x2 x3 (x4 + (5 : Int32)) M35
      · refine j_iconst (pc := 203) C dL_law_203 (v := 0) rfl ?_
        exact j_zreturn (pc := 204) C rfl dL_law_204 (lk1 hk)
  · refine j_iconst (pc := 186) C dL_law_186 (v := 0) rfl ?_
    exact j_zreturn (pc := 187) C rfl dL_law_187 (lk1 hk)
def f_L_law_b23 (z : Sh9) (L : Nat) (xs : Nat → Int32) (r23 : Nat → Nat → Nat → Int32 → Mem9 → Re9) (x1 : Nat) (x2 : Nat) (x3 : Nat) (x4 : Int32) (M : Mem9) : Re9 :=
  (if ((Int32.ofNat L) - (5 : Int32)) < x4 then (rz9 (1 : Int32) M) else ((sx9 L xs x4).bind fun v1 => (nm9 (v1 &&& (31 : Int32)) fun (y2 : Int32) => (if y2 = (0 : Int32) then (f_L_law_b152 z L xs r23 x1 x2 x3 x4 M) else (if y2 = (1 : Int32) then (f_L_law_b208 z L xs r23 x1 x2 x3 x4 M) else (if y2 = (2 : Int32) then (f_L_law_b221 z L xs r23 x1 x2 x3 x4 M) else (if y2 = (3 : Int32) then (f_L_law_b234 z L xs r23 x1 x2 x3 x4 M) else (if y2 = (4 : Int32) then (f_L_law_b278 z L xs r23 x1 x2 x3 x4 M) else (if y2 = (5 : Int32) then (f_L_law_b334 z L xs r23 x1 x2 x3 x4 M) else (if y2 = (6 : Int32) then (f_L_law_b402 z L xs r23 x1 x2 x3 x4 M) else (if y2 = (7 : Int32) then (f_L_law_b482 z L xs r23 x1 x2 x3 x4 M) else (if y2 = (8 : Int32) then (f_L_law_b538 z L xs r23 x1 x2 x3 x4 M) else (if y2 = (9 : Int32) then (f_L_law_b594 z L xs r23 x1 x2 x3 x4 M) else (if y2 = (10 : Int32) then (f_L_law_b638 z L xs r23 x1 x2 x3 x4 M) else (if y2 = (11 : Int32) then (f_L_law_b762 z L xs r23 x1 x2 x3 x4 M) else (if y2 = (12 : Int32) then (f_L_law_b846 z L xs r23 x1 x2 x3 x4 M) else (if y2 = (13 : Int32) then (f_L_law_b902 z L xs r23 x1 x2 x3 x4 M) else (if y2 = (14 : Int32) then (f_L_law_b958 z L xs r23 x1 x2 x3 x4 M) else (if y2 = (15 : Int32) then (f_L_law_b1026 z L xs r23 x1 x2 x3 x4 M) else (if y2 = (16 : Int32) then (f_L_law_b1070 z L xs r23 x1 x2 x3 x4 M) else (if y2 = (17 : Int32) then (f_L_law_b1126 z L xs r23 x1 x2 x3 x4 M) else (if y2 = (18 : Int32) then (f_L_law_b1194 z L xs r23 x1 x2 x3 x4 M) else (if y2 = (19 : Int32) then (f_L_law_b1250 z L xs r23 x1 x2 x3 x4 M) else (if y2 = (20 : Int32) then (f_L_law_b1318 z L xs r23 x1 x2 x3 x4 M) else (if y2 = (21 : Int32) then (f_L_law_b1374 z L xs r23 x1 x2 x3 x4 M) else (if y2 = (22 : Int32) then (f_L_law_b1474 z L xs r23 x1 x2 x3 x4 M) else (if y2 = (23 : Int32) then (f_L_law_b1574 z L xs r23 x1 x2 x3 x4 M) else (if y2 = (24 : Int32) then (f_L_law_b1630 z L xs r23 x1 x2 x3 x4 M) else (r23 x1 x2 x3 (x4 + (5 : Int32)) M)))))))))))))))))))))))))))))
set_option maxRecDepth 20000 in
set_option maxHeartbeats 4000000 in
theorem t_L_law_b23 {z : Sh9} {sb L : Nat} {xs : Nat → Int32} {D : va_G} {ca : Nat → ClassId} {X : Cx9} {out : Out9 × Mem9} {cm κ : Ka9} (C : OK9 z (sb, L, xs, D, ca) X out 7 cm cL_law RL 11 2 []) (hk : le9 (ad9 (ad9 κ (1, 6)) (1, 6)) cm) (hco : le9 (co9 out.1) cm) {r23 : Nat → Nat → Nat → Int32 → Mem9 → Re9} (h23 : ∀ κ2 : Ka9, le9 κ2 (ad9 κ (1, 6)) → ∀ (x1 x2 x3 : Nat) (x4 : Int32) (M : Mem9), J9 z (sb, L, xs, D, ca) X out 7 23 [(0, .ref sb), (1, .ref x1), (2, .ref x2), (3, .ref x3), (4, .int x4)] [] M κ2 (r23 x1 x2 x3 x4 M)) (x1 : Nat) (x2 : Nat) (x3 : Nat) (x4 : Int32) (M : Mem9) : J9 z (sb, L, xs, D, ca) X out 7 23 [(0, .ref sb), (1, .ref x1), (2, .ref x2), (3, .ref x3), (4, .int x4)] [] M κ (f_L_law_b23 z L xs r23 x1 x2 x3 x4 M) := by
  refine j_iload (pc := 23) C dL_law_23 rfl ?_
  refine j_aload_n (pc := 25) C dL_law_25 rfl ?_
  refine j_slen (pc := 26) C dL_law_26 ?_
  refine j_iconst (pc := 27) C dL_law_27 (v := 5) rfl ?_
  refine j_isub (pc := 28) C dL_law_28 ?_
  refine j_icmp_gt (pc := 29) C dL_law_29 (tgt := 1692) (by decide) (fun hc28 => ?_) (fun hc28 => ?_)
  · refine j_iconst (pc := 1692) C dL_law_1692 (v := 1) rfl ?_
    exact j_zreturn (pc := 1693) C rfl dL_law_1693 (lk0 hk)
  · refine j_aload_n (pc := 32) C dL_law_32 rfl ?_
    refine j_iload (pc := 33) C dL_law_33 rfl ?_
    refine j_sld (pc := 35) C dL_law_35 (fun v1 => ?_)
    refine j_bipush (pc := 36) C dL_law_36 (v := 31) rfl ?_
    refine j_iand (pc := 38) C dL_law_38 ?_
    refine j_nm (st' := fun x9 : Int32 => .int x9 :: []) rfl (fun y2 => ?_)
    refine j_ite (fun hc3 => ?_) (fun hc3 => ?_)
    · refine j_tsIn (pc := 39) C (0) dL_law_39 (by rw [hc3]; rfl) (by decide) (off := 113) rfl (tgt := 152) (by decide) ?_
      exact t_L_law_b152 C hk hco h23 x1 x2 x3 x4 M
    · refine j_ite (fun hc4 => ?_) (fun hc4 => ?_)
      · refine j_tsIn (pc := 39) C (1) dL_law_39 (by rw [hc4]; rfl) (by decide) (off := 169) rfl (tgt := 208) (by decide) ?_
        exact t_L_law_b208 C hk hco h23 x1 x2 x3 x4 M
      · refine j_ite (fun hc5 => ?_) (fun hc5 => ?_)
        · refine j_tsIn (pc := 39) C (2) dL_law_39 (by rw [hc5]; rfl) (by decide) (off := 182) rfl (tgt := 221) (by decide) ?_
          exact t_L_law_b221 C hk hco h23 x1 x2 x3 x4 M
        · refine j_ite (fun hc6 => ?_) (fun hc6 => ?_)
          · refine j_tsIn (pc := 39) C (3) dL_law_39 (by rw [hc6]; rfl) (by decide) (off := 195) rfl (tgt := 234) (by decide) ?_
            exact t_L_law_b234 C hk hco h23 x1 x2 x3 x4 M
          · refine j_ite (fun hc7 => ?_) (fun hc7 => ?_)
            · refine j_tsIn (pc := 39) C (4) dL_law_39 (by rw [hc7]; rfl) (by decide) (off := 239) rfl (tgt := 278) (by decide) ?_
              exact t_L_law_b278 C hk hco h23 x1 x2 x3 x4 M
            · refine j_ite (fun hc8 => ?_) (fun hc8 => ?_)
              · refine j_tsIn (pc := 39) C (5) dL_law_39 (by rw [hc8]; rfl) (by decide) (off := 295) rfl (tgt := 334) (by decide) ?_
                exact t_L_law_b334 C hk hco h23 x1 x2 x3 x4 M
              · refine j_ite (fun hc9 => ?_) (fun hc9 => ?_)
                · refine j_tsIn (pc := 39) C (6) dL_law_39 (by rw [hc9]; rfl) (by decide) (off := 363) rfl (tgt := 402) (by decide) ?_
                  exact t_L_law_b402 C hk hco h23 x1 x2 x3 x4 M
                · refine j_ite (fun hc10 => ?_) (fun hc10 => ?_)
                  · refine j_tsIn (pc := 39) C (7) dL_law_39 (by rw [hc10]; rfl) (by decide) (off := 443) rfl (tgt := 482) (by decide) ?_
                    exact t_L_law_b482 C hk hco h23 x1 x2 x3 x4 M
                  · refine j_ite (fun hc11 => ?_) (fun hc11 => ?_)
                    · refine j_tsIn (pc := 39) C (8) dL_law_39 (by rw [hc11]; rfl) (by decide) (off := 499) rfl (tgt := 538) (by decide) ?_
                      exact t_L_law_b538 C hk hco h23 x1 x2 x3 x4 M
                    · refine j_ite (fun hc12 => ?_) (fun hc12 => ?_)
                      · refine j_tsIn (pc := 39) C (9) dL_law_39 (by rw [hc12]; rfl) (by decide) (off := 555) rfl (tgt := 594) (by decide) ?_
                        exact t_L_law_b594 C hk hco h23 x1 x2 x3 x4 M
                      · refine j_ite (fun hc13 => ?_) (fun hc13 => ?_)
                        · refine j_tsIn (pc := 39) C (10) dL_law_39 (by rw [hc13]; rfl) (by decide) (off := 599) rfl (tgt := 638) (by decide) ?_
                          exact t_L_law_b638 C hk hco h23 x1 x2 x3 x4 M
                        · refine j_ite (fun hc14 => ?_) (fun hc14 => ?_)
                          · refine j_tsIn (pc := 39) C (11) dL_law_39 (by rw [hc14]; rfl) (by decide) (off := 723) rfl (tgt := 762) (by decide) ?_
                            exact t_L_law_b762 C hk hco h23 x1 x2 x3 x4 M
                          · refine j_ite (fun hc15 => ?_) (fun hc15 => ?_)
                            · refine j_tsIn (pc := 39) C (12) dL_law_39 (by rw [hc15]; rfl) (by decide) (off := 807) rfl (tgt := 846) (by decide) ?_
                              exact t_L_law_b846 C hk hco h23 x1 x2 x3 x4 M
                            · refine j_ite (fun hc16 => ?_) (fun hc16 => ?_)
                              · refine j_tsIn (pc := 39) C (13) dL_law_39 (by rw [hc16]; rfl) (by decide) (off := 863) rfl (tgt := 902) (by decide) ?_
                                exact t_L_law_b902 C hk hco h23 x1 x2 x3 x4 M
                              · refine j_ite (fun hc17 => ?_) (fun hc17 => ?_)
                                · refine j_tsIn (pc := 39) C (14) dL_law_39 (by rw [hc17]; rfl) (by decide) (off := 919) rfl (tgt := 958) (by decide) ?_
                                  exact t_L_law_b958 C hk hco h23 x1 x2 x3 x4 M
                                · refine j_ite (fun hc18 => ?_) (fun hc18 => ?_)
                                  · refine j_tsIn (pc := 39) C (15) dL_law_39 (by rw [hc18]; rfl) (by decide) (off := 987) rfl (tgt := 1026) (by decide) ?_
                                    exact t_L_law_b1026 C hk hco h23 x1 x2 x3 x4 M
                                  · refine j_ite (fun hc19 => ?_) (fun hc19 => ?_)
                                    · refine j_tsIn (pc := 39) C (16) dL_law_39 (by rw [hc19]; rfl) (by decide) (off := 1031) rfl (tgt := 1070) (by decide) ?_
                                      exact t_L_law_b1070 C hk hco h23 x1 x2 x3 x4 M
                                    · refine j_ite (fun hc20 => ?_) (fun hc20 => ?_)
                                      · refine j_tsIn (pc := 39) C (17) dL_law_39 (by rw [hc20]; rfl) (by decide) (off := 1087) rfl (tgt := 1126) (by decide) ?_
                                        exact t_L_law_b1126 C hk hco h23 x1 x2 x3 x4 M
                                      · refine j_ite (fun hc21 => ?_) (fun hc21 => ?_)
                                        · refine j_tsIn (pc := 39) C (18) dL_law_39 (by rw [hc21]; rfl) (by decide) (off := 1155) rfl (tgt := 1194) (by decide) ?_
                                          exact t_L_law_b1194 C hk hco h23 x1 x2 x3 x4 M
                                        · refine j_ite (fun hc22 => ?_) (fun hc22 => ?_)
                                          · refine j_tsIn (pc := 39) C (19) dL_law_39 (by rw [hc22]; rfl) (by decide) (off := 1211) rfl (tgt := 1250) (by decide) ?_
                                            exact t_L_law_b1250 C hk hco h23 x1 x2 x3 x4 M
                                          · refine j_ite (fun hc23 => ?_) (fun hc23 => ?_)
                                            · refine j_tsIn (pc := 39) C (20) dL_law_39 (by rw [hc23]; rfl) (by decide) (off := 1279) rfl (tgt := 1318) (by decide) ?_
                                              exact t_L_law_b1318 C hk hco h23 x1 x2 x3 x4 M
                                            · refine j_ite (fun hc24 => ?_) (fun hc24 => ?_)
                                              · refine j_tsIn (pc := 39) C (21) dL_law_39 (by rw [hc24]; rfl) (by decide) (off := 1335) rfl (tgt := 1374) (by decide) ?_
                                                exact t_L_law_b1374 C hk hco h23 x1 x2 x3 x4 M
                                              · refine j_ite (fun hc25 => ?_) (fun hc25 => ?_)
                                                · refine j_tsIn (pc := 39) C (22) dL_law_39 (by rw [hc25]; rfl) (by decide) (off := 1435) rfl (tgt := 1474) (by decide) ?_
                                                  exact t_L_law_b1474 C hk hco h23 x1 x2 x3 x4 M
                                                · refine j_ite (fun hc26 => ?_) (fun hc26 => ?_)
                                                  · refine j_tsIn (pc := 39) C (23) dL_law_39 (by rw [hc26]; rfl) (by decide) (off := 1535) rfl (tgt := 1574) (by decide) ?_
                                                    exact t_L_law_b1574 C hk hco h23 x1 x2 x3 x4 M
                                                  · refine j_ite (fun hc27 => ?_) (fun hc27 => ?_)
                                                    · refine j_tsIn (pc := 39) C (24) dL_law_39 (by rw [hc27]; rfl) (by decide) (off := 1591) rfl (tgt := 1630) (by decide) ?_
                                                      exact t_L_law_b1630 C hk hco h23 x1 x2 x3 x4 M
                                                    · refine j_tsOut (pc := 39) C dL_law_39 (by have qhc3 := ne9 (k := 0) hc3 rfl; have qhc4 := ne9 (k := 1) hc4 rfl; have qhc5 := ne9 (k := 2) hc5 rfl; have qhc6 := ne9 (k := 3) hc6 rfl; have qhc7 := ne9 (k := 4) hc7 rfl; have qhc8 := ne9 (k := 5) hc8 rfl; have qhc9 := ne9 (k := 6) hc9 rfl; have qhc10 := ne9 (k := 7) hc10 rfl; have qhc11 := ne9 (k := 8) hc11 rfl; have qhc12 := ne9 (k := 9) hc12 rfl; have qhc13 := ne9 (k := 10) hc13 rfl; have qhc14 := ne9 (k := 11) hc14 rfl; have qhc15 := ne9 (k := 12) hc15 rfl; have qhc16 := ne9 (k := 13) hc16 rfl; have qhc17 := ne9 (k := 14) hc17 rfl; have qhc18 := ne9 (k := 15) hc18 rfl; have qhc19 := ne9 (k := 16) hc19 rfl; have qhc20 := ne9 (k := 17) hc20 rfl; have qhc21 := ne9 (k := 18) hc21 rfl; have qhc22 := ne9 (k := 19) hc22 rfl; have qhc23 := ne9 (k := 20) hc23 rfl; have qhc24 := ne9 (k := 21) hc24 rfl; have qhc25 := ne9 (k := 22) hc25 rfl; have qhc26 := ne9 (k := 23) hc26 rfl; have qhc27 := ne9 (k := 24) hc27 rfl; omega) (tgt := 1686) (by decide) ?_
                                                      refine j_iinc (pc := 1686) C dL_law_1686 rfl (v := (x4 + (5 : Int32))) rfl (Nat.le_of_ble_eq_true rfl) (ls' := [(4, .int (x4 + (5 : Int32))), (0, .ref sb), (1, .ref x1), (2, .ref x2), (3, .ref x3)]) rfl ?_
                                                      refine j_goto (pc := 1689) C dL_law_1689 (tgt := 23) (by decide) ?_
                                                      refine j_loc [1, 2, 3, 4, 0] rfl ?_
                                                      exact h23 κ ⟨Nat.le_add_right _ _, Nat.le_add_right _ _⟩ x1 x2 x3 (x4 + (5 : Int32)) M
theorem t_L_law_l23 {z : Sh9} {sb L : Nat} {xs : Nat → Int32} {D : va_G} {ca : Nat → ClassId} {X : Cx9} {out : Out9 × Mem9} {cm : Ka9} (C : OK9 z (sb, L, xs, D, ca) X out 7 cm cL_law RL 11 2 []) (hco : le9 (co9 out.1) cm) : ∀ (n : Nat) (κ : Ka9), κ.1 + n + 2 ≤ cm.1 → κ.2 + 6 * n + 12 ≤ cm.2 → ∀ (x1 x2 x3 : Nat) (x4 : Int32) (M : Mem9), J9 z (sb, L, xs, D, ca) X out 7 23 [(0, .ref sb), (1, .ref x1), (2, .ref x2), (3, .ref x3), (4, .int x4)] [] M κ (fx9 (fun _ _ _ _ _ => none) (f_L_law_b23 z L xs) n x1 x2 x3 x4 M) := by
  intro n
  induction n with
  | zero => intro κ _ _ x1 x2 x3 x4 M; exact j_none
  | succ n ih =>
    intro κ h1 h2 x1 x2 x3 x4 M
    refine t_L_law_b23 (κ := κ) C ⟨by show κ.1 + 1 + 1 ≤ cm.1; omega, by show κ.2 + 6 + 6 ≤ cm.2; omega⟩ hco (fun κ2 h3 y1 y2 y3 y4 M2 => ih κ2 ?_ ?_ y1 y2 y3 y4 M2) x1 x2 x3 x4 M
    · have h4 : κ2.1 ≤ κ.1 + 1 := h3.1
      omega
    · have h4 : κ2.2 ≤ κ.2 + 6 := h3.2
      omega
