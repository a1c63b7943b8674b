/-! the law, by cases -/
section Law
variable {G : Gx} {I : (Nat → Nat → Int32) → Prop} {mm : Nat → Nat → Int32} {lm : Nat → Int64} {o : Ou} {a b k : Nat}
theorem law_24 (hk : k + 5 < Gn G) (hL : Gn G < 2 ^ 31) (hop : OpW G I M_L_gap M_X10_gap [.int (Gs G (k + 1)), .int (Gs G (k + 2)), .int (Gs G (k + 3))] cmpI) (hI : I mm) (hc : ∀ mm2 l1, I mm2 → ∃ z, J G M_L_law 23 [(4, .int (nI k + 6)), (3, .ref 85), (2, .ref 63), (1, .ref 0), (0, .ref 1000)] [] (SH, mm2, l1) false o z false a b) :
    ∃ z, J G M_L_law 1650 [(4, .int (nI k)), (3, .ref 85), (2, .ref 63), (1, .ref 0), (0, .ref 1000)] [] (SH, mm, lm) false o z false (a + 1) (b + 6) := by
  obtain ⟨kk, mm1, l1, bb, mm2, h1, h2, h3, h4, h5⟩ := hop mm lm hI
  obtain ⟨z, hz⟩ := hc mm2 l1 h5
  refine ⟨z, ?_⟩
  refine J_aload_n rfl (i := 1) rfl dL_law_1650 ?_
  refine J_aload_n rfl (i := 0) rfl dL_law_1651 ?_
  refine J_iload (i := 4) rfl dL_law_1652 ?_
  refine J_iconst (v := 1) (by decide) dL_law_1654 ?_
  refine J_iadd dL_law_1655 ?_
  refine J_sld (nI_add k 1) (by omega) hL dL_law_1656 ?_
  refine J_aload_n rfl (i := 0) rfl dL_law_1657 ?_
  refine J_iload (i := 4) rfl dL_law_1658 ?_
  refine J_iconst (v := 2) (by decide) dL_law_1660 ?_
  refine J_iadd dL_law_1661 ?_
  refine J_sld (nI_add k 2) (by omega) hL dL_law_1662 ?_
  refine J_aload_n rfl (i := 0) rfl dL_law_1663 ?_
  refine J_iload (i := 4) rfl dL_law_1664 ?_
  refine J_iconst (v := 3) (by decide) dL_law_1666 ?_
  refine J_iadd dL_law_1667 ?_
  refine J_sld (nI_add k 3) (by omega) hL dL_law_1668 ?_
  refine J_aload_n rfl (i := 3) rfl dL_law_1669 ?_
  refine J_callSH (Mc := M_L_gap) (as := [.ref 0, .int (Gs G (k + 1)), .int (Gs G (k + 2)), .int (Gs G (k + 3)), .ref 85]) (st := []) rfl gw_1102 gw_107 ⟨by decide, by decide⟩ gw_1101 gw_1100 ⟨by decide, by decide⟩ cnt_L_gap rfl (Nat.le_of_ble_eq_true rfl) dL_law_1670 (Nat.add_comm a 1) (Nat.add_comm b 6) h1 ?_
  refine J_istore [(5, .int kk), (4, .int (nI k)), (3, .ref 85), (2, .ref 63), (1, .ref 0), (0, .ref 1000)] (i := 5) (by decide) rfl dL_law_1673 ?_
  refine J_aload_n rfl (i := 2) rfl dL_law_1675 ?_
  refine J_aload_n rfl (i := 0) rfl dL_law_1676 ?_
  refine J_iload (i := 4) rfl dL_law_1677 ?_
  refine J_iconst (v := 1) (by decide) dL_law_1679 ?_
  refine J_iadd dL_law_1680 ?_
  refine J_sld (nI_add k 1) (by omega) hL dL_law_1681 ?_
  refine J_aload_n rfl (i := 0) rfl dL_law_1682 ?_
  refine J_iload (i := 4) rfl dL_law_1683 ?_
  refine J_iconst (v := 2) (by decide) dL_law_1685 ?_
  refine J_iadd dL_law_1686 ?_
  refine J_sld (nI_add k 2) (by omega) hL dL_law_1687 ?_
  refine J_aload_n rfl (i := 0) rfl dL_law_1688 ?_
  refine J_iload (i := 4) rfl dL_law_1689 ?_
  refine J_iconst (v := 3) (by decide) dL_law_1691 ?_
  refine J_iadd dL_law_1692 ?_
  refine J_sld (nI_add k 3) (by omega) hL dL_law_1693 ?_
  refine J_callV (as := [.int (Gs G (k + 1)), .int (Gs G (k + 2)), .int (Gs G (k + 3))]) (k := 63) (st := []) cal_X10_gap cai_X10_gap gw_1883 ⟨by decide, by decide⟩ cnt_X10_gap sh_63 rfl rfl (Nat.le_of_ble_eq_true rfl) dL_law_1694 (Nat.zero_add _).symm (Nat.zero_add _).symm h2 ?_
  refine J_istore [(6, .int bb), (5, .int kk), (4, .int (nI k)), (3, .ref 85), (2, .ref 63), (1, .ref 0), (0, .ref 1000)] (i := 6) (by decide) rfl dL_law_1697 ?_
  refine J_aload_n rfl (i := 2) rfl dL_law_1699 ?_
  refine J_callV (as := []) (k := 63) (st := []) cal_X10_thrown cai_X10_thrown gw_1557 ⟨by decide, by decide⟩ cnt_X10_thrown sh_63 rfl rfl (Nat.le_of_ble_eq_true rfl) dL_law_1700 (Nat.zero_add _).symm (Nat.zero_add _).symm th_hyp ?_
  refine J_iload (i := 5) rfl dL_law_1703 ?_
  refine J_icmp_eq (tgt := 1710) dL_law_1705 (by decide) (fun _ => ?_) (fun hn => absurd h3 hn)
  refine J_iload (i := 5) rfl dL_law_1710 ?_
  refine J_if_ne (tgt := 1727) dL_law_1712 (by decide) (fun _ => ?_) (fun h0 => ?_)
  · refine J_goto (tgt := 3001) dL_law_1727 (by decide) ?_
    refine J_iinc [(4, .int (nI k + 6)), (6, .int bb), (5, .int kk), (3, .ref 85), (2, .ref 63), (1, .ref 0), (0, .ref 1000)] (i := 4) (v := nI k + 6) rfl rfl (by decide) rfl dL_law_3001 ?_
    refine J_goto (tgt := 23) dL_law_3004 (by decide) ?_
    exact J_sub [0, 3, 4, 5, 6] rfl hz
  · refine J_aload_n rfl (i := 3) rfl dL_law_1715 ?_
    refine J_iconst (v := 0) (by decide) dL_law_1716 ?_
    refine J_lald sh_85 (by unfold vp_in; decide) dL_law_1717 ?_
    refine J_iload (i := 6) rfl dL_law_1718 ?_
    refine J_i2l dL_law_1720 ?_
    refine J_lcmp dL_law_1721 ?_
    refine J_if_eq (tgt := 1727) dL_law_1722 (by decide) (fun _ => ?_) (fun hn => absurd ((lg_cmp_eq _ _).mpr (h4 h0)) hn)
    refine J_goto (tgt := 3001) dL_law_1727 (by decide) ?_
    refine J_iinc [(4, .int (nI k + 6)), (6, .int bb), (5, .int kk), (3, .ref 85), (2, .ref 63), (1, .ref 0), (0, .ref 1000)] (i := 4) (v := nI k + 6) rfl rfl (by decide) rfl dL_law_3001 ?_
    refine J_goto (tgt := 23) dL_law_3004 (by decide) ?_
    exact J_sub [0, 3, 4, 5, 6] rfl hz
theorem law_25 (hk : k + 5 < Gn G) (hL : Gn G < 2 ^ 31) (hop : OpW G I M_L_firstCollision M_X10_firstCollision [] cmpI) (hI : I mm) (hc : ∀ mm2 l1, I mm2 → ∃ z, J G M_L_law 23 [(4, .int (nI k + 6)), (3, .ref 85), (2, .ref 63), (1, .ref 0), (0, .ref 1000)] [] (SH, mm2, l1) false o z false a b) :
    ∃ z, J G M_L_law 1730 [(4, .int (nI k)), (3, .ref 85), (2, .ref 63), (1, .ref 0), (0, .ref 1000)] [] (SH, mm, lm) false o z false (a + 1) (b + 6) := by
  obtain ⟨kk, mm1, l1, bb, mm2, h1, h2, h3, h4, h5⟩ := hop mm lm hI
  obtain ⟨z, hz⟩ := hc mm2 l1 h5
  refine ⟨z, ?_⟩
  refine J_aload_n rfl (i := 1) rfl dL_law_1730 ?_
  refine J_aload_n rfl (i := 3) rfl dL_law_1731 ?_
  refine J_callSH (Mc := M_L_firstCollision) (as := [.ref 0, .ref 85]) (st := []) rfl gw_1125 gw_107 ⟨by decide, by decide⟩ gw_1124 gw_1123 ⟨by decide, by decide⟩ cnt_L_firstCollision rfl (Nat.le_of_ble_eq_true rfl) dL_law_1732 (Nat.add_comm a 1) (Nat.add_comm b 6) h1 ?_
  refine J_istore [(5, .int kk), (4, .int (nI k)), (3, .ref 85), (2, .ref 63), (1, .ref 0), (0, .ref 1000)] (i := 5) (by decide) rfl dL_law_1735 ?_
  refine J_aload_n rfl (i := 2) rfl dL_law_1737 ?_
  refine J_callV (as := []) (k := 63) (st := []) cal_X10_firstCollision cai_X10_firstCollision gw_1895 ⟨by decide, by decide⟩ cnt_X10_firstCollision sh_63 rfl rfl (Nat.le_of_ble_eq_true rfl) dL_law_1738 (Nat.zero_add _).symm (Nat.zero_add _).symm h2 ?_
  refine J_istore [(6, .int bb), (5, .int kk), (4, .int (nI k)), (3, .ref 85), (2, .ref 63), (1, .ref 0), (0, .ref 1000)] (i := 6) (by decide) rfl dL_law_1741 ?_
  refine J_aload_n rfl (i := 2) rfl dL_law_1743 ?_
  refine J_callV (as := []) (k := 63) (st := []) cal_X10_thrown cai_X10_thrown gw_1557 ⟨by decide, by decide⟩ cnt_X10_thrown sh_63 rfl rfl (Nat.le_of_ble_eq_true rfl) dL_law_1744 (Nat.zero_add _).symm (Nat.zero_add _).symm th_hyp ?_
  refine J_iload (i := 5) rfl dL_law_1747 ?_
  refine J_icmp_eq (tgt := 1754) dL_law_1749 (by decide) (fun _ => ?_) (fun hn => absurd h3 hn)
  refine J_iload (i := 5) rfl dL_law_1754 ?_
  refine J_if_ne (tgt := 1771) dL_law_1756 (by decide) (fun _ => ?_) (fun h0 => ?_)
  · refine J_goto (tgt := 3001) dL_law_1771 (by decide) ?_
    refine J_iinc [(4, .int (nI k + 6)), (6, .int bb), (5, .int kk), (3, .ref 85), (2, .ref 63), (1, .ref 0), (0, .ref 1000)] (i := 4) (v := nI k + 6) rfl rfl (by decide) rfl dL_law_3001 ?_
    refine J_goto (tgt := 23) dL_law_3004 (by decide) ?_
    exact J_sub [0, 3, 4, 5, 6] rfl hz
  · refine J_aload_n rfl (i := 3) rfl dL_law_1759 ?_
    refine J_iconst (v := 0) (by decide) dL_law_1760 ?_
    refine J_lald sh_85 (by unfold vp_in; decide) dL_law_1761 ?_
    refine J_iload (i := 6) rfl dL_law_1762 ?_
    refine J_i2l dL_law_1764 ?_
    refine J_lcmp dL_law_1765 ?_
    refine J_if_eq (tgt := 1771) dL_law_1766 (by decide) (fun _ => ?_) (fun hn => absurd ((lg_cmp_eq _ _).mpr (h4 h0)) hn)
    refine J_goto (tgt := 3001) dL_law_1771 (by decide) ?_
    refine J_iinc [(4, .int (nI k + 6)), (6, .int bb), (5, .int kk), (3, .ref 85), (2, .ref 63), (1, .ref 0), (0, .ref 1000)] (i := 4) (v := nI k + 6) rfl rfl (by decide) rfl dL_law_3001 ?_
    refine J_goto (tgt := 23) dL_law_3004 (by decide) ?_
    exact J_sub [0, 3, 4, 5, 6] rfl hz
theorem law_26 (hk : k + 5 < Gn G) (hL : Gn G < 2 ^ 31) (hop : OpW G I M_L_collidingBells M_X10_collidingBells [] cmpI) (hI : I mm) (hc : ∀ mm2 l1, I mm2 → ∃ z, J G M_L_law 23 [(4, .int (nI k + 6)), (3, .ref 85), (2, .ref 63), (1, .ref 0), (0, .ref 1000)] [] (SH, mm2, l1) false o z false a b) :
    ∃ z, J G M_L_law 1774 [(4, .int (nI k)), (3, .ref 85), (2, .ref 63), (1, .ref 0), (0, .ref 1000)] [] (SH, mm, lm) false o z false (a + 1) (b + 6) := by
  obtain ⟨kk, mm1, l1, bb, mm2, h1, h2, h3, h4, h5⟩ := hop mm lm hI
  obtain ⟨z, hz⟩ := hc mm2 l1 h5
  refine ⟨z, ?_⟩
  refine J_aload_n rfl (i := 1) rfl dL_law_1774 ?_
  refine J_aload_n rfl (i := 3) rfl dL_law_1775 ?_
  refine J_callSH (Mc := M_L_collidingBells) (as := [.ref 0, .ref 85]) (st := []) rfl gw_1141 gw_107 ⟨by decide, by decide⟩ gw_1140 gw_1139 ⟨by decide, by decide⟩ cnt_L_collidingBells rfl (Nat.le_of_ble_eq_true rfl) dL_law_1776 (Nat.add_comm a 1) (Nat.add_comm b 6) h1 ?_
  refine J_istore [(5, .int kk), (4, .int (nI k)), (3, .ref 85), (2, .ref 63), (1, .ref 0), (0, .ref 1000)] (i := 5) (by decide) rfl dL_law_1779 ?_
  refine J_aload_n rfl (i := 2) rfl dL_law_1781 ?_
  refine J_callV (as := []) (k := 63) (st := []) cal_X10_collidingBells cai_X10_collidingBells gw_1907 ⟨by decide, by decide⟩ cnt_X10_collidingBells sh_63 rfl rfl (Nat.le_of_ble_eq_true rfl) dL_law_1782 (Nat.zero_add _).symm (Nat.zero_add _).symm h2 ?_
  refine J_istore [(6, .int bb), (5, .int kk), (4, .int (nI k)), (3, .ref 85), (2, .ref 63), (1, .ref 0), (0, .ref 1000)] (i := 6) (by decide) rfl dL_law_1785 ?_
  refine J_aload_n rfl (i := 2) rfl dL_law_1787 ?_
  refine J_callV (as := []) (k := 63) (st := []) cal_X10_thrown cai_X10_thrown gw_1557 ⟨by decide, by decide⟩ cnt_X10_thrown sh_63 rfl rfl (Nat.le_of_ble_eq_true rfl) dL_law_1788 (Nat.zero_add _).symm (Nat.zero_add _).symm th_hyp ?_
  refine J_iload (i := 5) rfl dL_law_1791 ?_
  refine J_icmp_eq (tgt := 1798) dL_law_1793 (by decide) (fun _ => ?_) (fun hn => absurd h3 hn)
  refine J_iload (i := 5) rfl dL_law_1798 ?_
  refine J_if_ne (tgt := 1815) dL_law_1800 (by decide) (fun _ => ?_) (fun h0 => ?_)
  · refine J_goto (tgt := 3001) dL_law_1815 (by decide) ?_
    refine J_iinc [(4, .int (nI k + 6)), (6, .int bb), (5, .int kk), (3, .ref 85), (2, .ref 63), (1, .ref 0), (0, .ref 1000)] (i := 4) (v := nI k + 6) rfl rfl (by decide) rfl dL_law_3001 ?_
    refine J_goto (tgt := 23) dL_law_3004 (by decide) ?_
    exact J_sub [0, 3, 4, 5, 6] rfl hz
  · refine J_aload_n rfl (i := 3) rfl dL_law_1803 ?_
    refine J_iconst (v := 0) (by decide) dL_law_1804 ?_
    refine J_lald sh_85 (by unfold vp_in; decide) dL_law_1805 ?_
    refine J_iload (i := 6) rfl dL_law_1806 ?_
    refine J_i2l dL_law_1808 ?_
    refine J_lcmp dL_law_1809 ?_
    refine J_if_eq (tgt := 1815) dL_law_1810 (by decide) (fun _ => ?_) (fun hn => absurd ((lg_cmp_eq _ _).mpr (h4 h0)) hn)
    refine J_goto (tgt := 3001) dL_law_1815 (by decide) ?_
    refine J_iinc [(4, .int (nI k + 6)), (6, .int bb), (5, .int kk), (3, .ref 85), (2, .ref 63), (1, .ref 0), (0, .ref 1000)] (i := 4) (v := nI k + 6) rfl rfl (by decide) rfl dL_law_3001 ?_
    refine J_goto (tgt := 23) dL_law_3004 (by decide) ?_
    exact J_sub [0, 3, 4, 5, 6] rfl hz
theorem law_27 (hk : k + 5 < Gn G) (hL : Gn G < 2 ^ 31) (hop : OpW G I M_L_safeStart M_X10_safeStart [.int (Gs G (k + 1)), .int (Gs G (k + 2))] cmpI) (hI : I mm) (hc : ∀ mm2 l1, I mm2 → ∃ z, J G M_L_law 23 [(4, .int (nI k + 6)), (3, .ref 85), (2, .ref 63), (1, .ref 0), (0, .ref 1000)] [] (SH, mm2, l1) false o z false a b) :
    ∃ z, J G M_L_law 1818 [(4, .int (nI k)), (3, .ref 85), (2, .ref 63), (1, .ref 0), (0, .ref 1000)] [] (SH, mm, lm) false o z false (a + 1) (b + 6) := by
  obtain ⟨kk, mm1, l1, bb, mm2, h1, h2, h3, h4, h5⟩ := hop mm lm hI
  obtain ⟨z, hz⟩ := hc mm2 l1 h5
  refine ⟨z, ?_⟩
  refine J_aload_n rfl (i := 1) rfl dL_law_1818 ?_
  refine J_aload_n rfl (i := 0) rfl dL_law_1819 ?_
  refine J_iload (i := 4) rfl dL_law_1820 ?_
  refine J_iconst (v := 1) (by decide) dL_law_1822 ?_
  refine J_iadd dL_law_1823 ?_
  refine J_sld (nI_add k 1) (by omega) hL dL_law_1824 ?_
  refine J_aload_n rfl (i := 0) rfl dL_law_1825 ?_
  refine J_iload (i := 4) rfl dL_law_1826 ?_
  refine J_iconst (v := 2) (by decide) dL_law_1828 ?_
  refine J_iadd dL_law_1829 ?_
  refine J_sld (nI_add k 2) (by omega) hL dL_law_1830 ?_
  refine J_aload_n rfl (i := 3) rfl dL_law_1831 ?_
  refine J_callSH (Mc := M_L_safeStart) (as := [.ref 0, .int (Gs G (k + 1)), .int (Gs G (k + 2)), .ref 85]) (st := []) rfl gw_1149 gw_107 ⟨by decide, by decide⟩ gw_1148 gw_1147 ⟨by decide, by decide⟩ cnt_L_safeStart rfl (Nat.le_of_ble_eq_true rfl) dL_law_1832 (Nat.add_comm a 1) (Nat.add_comm b 6) h1 ?_
  refine J_istore [(5, .int kk), (4, .int (nI k)), (3, .ref 85), (2, .ref 63), (1, .ref 0), (0, .ref 1000)] (i := 5) (by decide) rfl dL_law_1835 ?_
  refine J_aload_n rfl (i := 2) rfl dL_law_1837 ?_
  refine J_aload_n rfl (i := 0) rfl dL_law_1838 ?_
  refine J_iload (i := 4) rfl dL_law_1839 ?_
  refine J_iconst (v := 1) (by decide) dL_law_1841 ?_
  refine J_iadd dL_law_1842 ?_
  refine J_sld (nI_add k 1) (by omega) hL dL_law_1843 ?_
  refine J_aload_n rfl (i := 0) rfl dL_law_1844 ?_
  refine J_iload (i := 4) rfl dL_law_1845 ?_
  refine J_iconst (v := 2) (by decide) dL_law_1847 ?_
  refine J_iadd dL_law_1848 ?_
  refine J_sld (nI_add k 2) (by omega) hL dL_law_1849 ?_
  refine J_callV (as := [.int (Gs G (k + 1)), .int (Gs G (k + 2))]) (k := 63) (st := []) cal_X10_safeStart cai_X10_safeStart gw_1911 ⟨by decide, by decide⟩ cnt_X10_safeStart sh_63 rfl rfl (Nat.le_of_ble_eq_true rfl) dL_law_1850 (Nat.zero_add _).symm (Nat.zero_add _).symm h2 ?_
  refine J_istore [(6, .int bb), (5, .int kk), (4, .int (nI k)), (3, .ref 85), (2, .ref 63), (1, .ref 0), (0, .ref 1000)] (i := 6) (by decide) rfl dL_law_1853 ?_
  refine J_aload_n rfl (i := 2) rfl dL_law_1855 ?_
  refine J_callV (as := []) (k := 63) (st := []) cal_X10_thrown cai_X10_thrown gw_1557 ⟨by decide, by decide⟩ cnt_X10_thrown sh_63 rfl rfl (Nat.le_of_ble_eq_true rfl) dL_law_1856 (Nat.zero_add _).symm (Nat.zero_add _).symm th_hyp ?_
  refine J_iload (i := 5) rfl dL_law_1859 ?_
  refine J_icmp_eq (tgt := 1866) dL_law_1861 (by decide) (fun _ => ?_) (fun hn => absurd h3 hn)
  refine J_iload (i := 5) rfl dL_law_1866 ?_
  refine J_if_ne (tgt := 1883) dL_law_1868 (by decide) (fun _ => ?_) (fun h0 => ?_)
  · refine J_goto (tgt := 3001) dL_law_1883 (by decide) ?_
    refine J_iinc [(4, .int (nI k + 6)), (6, .int bb), (5, .int kk), (3, .ref 85), (2, .ref 63), (1, .ref 0), (0, .ref 1000)] (i := 4) (v := nI k + 6) rfl rfl (by decide) rfl dL_law_3001 ?_
    refine J_goto (tgt := 23) dL_law_3004 (by decide) ?_
    exact J_sub [0, 3, 4, 5, 6] rfl hz
  · refine J_aload_n rfl (i := 3) rfl dL_law_1871 ?_
    refine J_iconst (v := 0) (by decide) dL_law_1872 ?_
    refine J_lald sh_85 (by unfold vp_in; decide) dL_law_1873 ?_
    refine J_iload (i := 6) rfl dL_law_1874 ?_
    refine J_i2l dL_law_1876 ?_
    refine J_lcmp dL_law_1877 ?_
    refine J_if_eq (tgt := 1883) dL_law_1878 (by decide) (fun _ => ?_) (fun hn => absurd ((lg_cmp_eq _ _).mpr (h4 h0)) hn)
    refine J_goto (tgt := 3001) dL_law_1883 (by decide) ?_
    refine J_iinc [(4, .int (nI k + 6)), (6, .int bb), (5, .int kk), (3, .ref 85), (2, .ref 63), (1, .ref 0), (0, .ref 1000)] (i := 4) (v := nI k + 6) rfl rfl (by decide) rfl dL_law_3001 ?_
    refine J_goto (tgt := 23) dL_law_3004 (by decide) ?_
    exact J_sub [0, 3, 4, 5, 6] rfl hz
theorem law_28 (hk : k + 5 < Gn G) (hL : Gn G < 2 ^ 31) (hop : OpW G I M_L_safeAmplitude M_X10_safeAmplitude [.int (Gs G (k + 1))] cmpI) (hI : I mm) (hc : ∀ mm2 l1, I mm2 → ∃ z, J G M_L_law 23 [(4, .int (nI k + 6)), (3, .ref 85), (2, .ref 63), (1, .ref 0), (0, .ref 1000)] [] (SH, mm2, l1) false o z false a b) :
    ∃ z, J G M_L_law 1886 [(4, .int (nI k)), (3, .ref 85), (2, .ref 63), (1, .ref 0), (0, .ref 1000)] [] (SH, mm, lm) false o z false (a + 1) (b + 6) := by
  obtain ⟨kk, mm1, l1, bb, mm2, h1, h2, h3, h4, h5⟩ := hop mm lm hI
  obtain ⟨z, hz⟩ := hc mm2 l1 h5
  refine ⟨z, ?_⟩
  refine J_aload_n rfl (i := 1) rfl dL_law_1886 ?_
  refine J_aload_n rfl (i := 0) rfl dL_law_1887 ?_
  refine J_iload (i := 4) rfl dL_law_1888 ?_
  refine J_iconst (v := 1) (by decide) dL_law_1890 ?_
  refine J_iadd dL_law_1891 ?_
  refine J_sld (nI_add k 1) (by omega) hL dL_law_1892 ?_
  refine J_aload_n rfl (i := 3) rfl dL_law_1893 ?_
  refine J_callSH (Mc := M_L_safeAmplitude) (as := [.ref 0, .int (Gs G (k + 1)), .ref 85]) (st := []) rfl gw_1174 gw_107 ⟨by decide, by decide⟩ gw_1173 gw_1172 ⟨by decide, by decide⟩ cnt_L_safeAmplitude rfl (Nat.le_of_ble_eq_true rfl) dL_law_1894 (Nat.add_comm a 1) (Nat.add_comm b 6) h1 ?_
  refine J_istore [(5, .int kk), (4, .int (nI k)), (3, .ref 85), (2, .ref 63), (1, .ref 0), (0, .ref 1000)] (i := 5) (by decide) rfl dL_law_1897 ?_
  refine J_aload_n rfl (i := 2) rfl dL_law_1899 ?_
  refine J_aload_n rfl (i := 0) rfl dL_law_1900 ?_
  refine J_iload (i := 4) rfl dL_law_1901 ?_
  refine J_iconst (v := 1) (by decide) dL_law_1903 ?_
  refine J_iadd dL_law_1904 ?_
  refine J_sld (nI_add k 1) (by omega) hL dL_law_1905 ?_
  refine J_callV (as := [.int (Gs G (k + 1))]) (k := 63) (st := []) cal_X10_safeAmplitude cai_X10_safeAmplitude gw_1919 ⟨by decide, by decide⟩ cnt_X10_safeAmplitude sh_63 rfl rfl (Nat.le_of_ble_eq_true rfl) dL_law_1906 (Nat.zero_add _).symm (Nat.zero_add _).symm h2 ?_
  refine J_istore [(6, .int bb), (5, .int kk), (4, .int (nI k)), (3, .ref 85), (2, .ref 63), (1, .ref 0), (0, .ref 1000)] (i := 6) (by decide) rfl dL_law_1909 ?_
  refine J_aload_n rfl (i := 2) rfl dL_law_1911 ?_
  refine J_callV (as := []) (k := 63) (st := []) cal_X10_thrown cai_X10_thrown gw_1557 ⟨by decide, by decide⟩ cnt_X10_thrown sh_63 rfl rfl (Nat.le_of_ble_eq_true rfl) dL_law_1912 (Nat.zero_add _).symm (Nat.zero_add _).symm th_hyp ?_
  refine J_iload (i := 5) rfl dL_law_1915 ?_
  refine J_icmp_eq (tgt := 1922) dL_law_1917 (by decide) (fun _ => ?_) (fun hn => absurd h3 hn)
  refine J_iload (i := 5) rfl dL_law_1922 ?_
  refine J_if_ne (tgt := 1939) dL_law_1924 (by decide) (fun _ => ?_) (fun h0 => ?_)
  · refine J_goto (tgt := 3001) dL_law_1939 (by decide) ?_
    refine J_iinc [(4, .int (nI k + 6)), (6, .int bb), (5, .int kk), (3, .ref 85), (2, .ref 63), (1, .ref 0), (0, .ref 1000)] (i := 4) (v := nI k + 6) rfl rfl (by decide) rfl dL_law_3001 ?_
    refine J_goto (tgt := 23) dL_law_3004 (by decide) ?_
    exact J_sub [0, 3, 4, 5, 6] rfl hz
  · refine J_aload_n rfl (i := 3) rfl dL_law_1927 ?_
    refine J_iconst (v := 0) (by decide) dL_law_1928 ?_
    refine J_lald sh_85 (by unfold vp_in; decide) dL_law_1929 ?_
    refine J_iload (i := 6) rfl dL_law_1930 ?_
    refine J_i2l dL_law_1932 ?_
    refine J_lcmp dL_law_1933 ?_
    refine J_if_eq (tgt := 1939) dL_law_1934 (by decide) (fun _ => ?_) (fun hn => absurd ((lg_cmp_eq _ _).mpr (h4 h0)) hn)
    refine J_goto (tgt := 3001) dL_law_1939 (by decide) ?_
    refine J_iinc [(4, .int (nI k + 6)), (6, .int bb), (5, .int kk), (3, .ref 85), (2, .ref 63), (1, .ref 0), (0, .ref 1000)] (i := 4) (v := nI k + 6) rfl rfl (by decide) rfl dL_law_3001 ?_
    refine J_goto (tgt := 23) dL_law_3004 (by decide) ?_
    exact J_sub [0, 3, 4, 5, 6] rfl hz
theorem law_29 (hk : k + 5 < Gn G) (hL : Gn G < 2 ^ 31) (hop : OpW G I M_L_strikes M_X10_strikes [.int (Gs G (k + 1)), .int (Gs G (k + 2)), .int (Gs G (k + 3))] cmpI) (hI : I mm) (hc : ∀ mm2 l1, I mm2 → ∃ z, J G M_L_law 23 [(4, .int (nI k + 6)), (3, .ref 85), (2, .ref 63), (1, .ref 0), (0, .ref 1000)] [] (SH, mm2, l1) false o z false a b) :
    ∃ z, J G M_L_law 1942 [(4, .int (nI k)), (3, .ref 85), (2, .ref 63), (1, .ref 0), (0, .ref 1000)] [] (SH, mm, lm) false o z false (a + 1) (b + 6) := by
  obtain ⟨kk, mm1, l1, bb, mm2, h1, h2, h3, h4, h5⟩ := hop mm lm hI
  obtain ⟨z, hz⟩ := hc mm2 l1 h5
  refine ⟨z, ?_⟩
  refine J_aload_n rfl (i := 1) rfl dL_law_1942 ?_
  refine J_aload_n rfl (i := 0) rfl dL_law_1943 ?_
  refine J_iload (i := 4) rfl dL_law_1944 ?_
  refine J_iconst (v := 1) (by decide) dL_law_1946 ?_
  refine J_iadd dL_law_1947 ?_
  refine J_sld (nI_add k 1) (by omega) hL dL_law_1948 ?_
  refine J_aload_n rfl (i := 0) rfl dL_law_1949 ?_
  refine J_iload (i := 4) rfl dL_law_1950 ?_
  refine J_iconst (v := 2) (by decide) dL_law_1952 ?_
  refine J_iadd dL_law_1953 ?_
  refine J_sld (nI_add k 2) (by omega) hL dL_law_1954 ?_
  refine J_aload_n rfl (i := 0) rfl dL_law_1955 ?_
  refine J_iload (i := 4) rfl dL_law_1956 ?_
  refine J_iconst (v := 3) (by decide) dL_law_1958 ?_
  refine J_iadd dL_law_1959 ?_
  refine J_sld (nI_add k 3) (by omega) hL dL_law_1960 ?_
  refine J_aload_n rfl (i := 3) rfl dL_law_1961 ?_
  refine J_callSH (Mc := M_L_strikes) (as := [.ref 0, .int (Gs G (k + 1)), .int (Gs G (k + 2)), .int (Gs G (k + 3)), .ref 85]) (st := []) rfl gw_1185 gw_107 ⟨by decide, by decide⟩ gw_1184 gw_1183 ⟨by decide, by decide⟩ cnt_L_strikes rfl (Nat.le_of_ble_eq_true rfl) dL_law_1962 (Nat.add_comm a 1) (Nat.add_comm b 6) h1 ?_
  refine J_istore [(5, .int kk), (4, .int (nI k)), (3, .ref 85), (2, .ref 63), (1, .ref 0), (0, .ref 1000)] (i := 5) (by decide) rfl dL_law_1965 ?_
  refine J_aload_n rfl (i := 2) rfl dL_law_1967 ?_
  refine J_aload_n rfl (i := 0) rfl dL_law_1968 ?_
  refine J_iload (i := 4) rfl dL_law_1969 ?_
  refine J_iconst (v := 1) (by decide) dL_law_1971 ?_
  refine J_iadd dL_law_1972 ?_
  refine J_sld (nI_add k 1) (by omega) hL dL_law_1973 ?_
  refine J_aload_n rfl (i := 0) rfl dL_law_1974 ?_
  refine J_iload (i := 4) rfl dL_law_1975 ?_
  refine J_iconst (v := 2) (by decide) dL_law_1977 ?_
  refine J_iadd dL_law_1978 ?_
  refine J_sld (nI_add k 2) (by omega) hL dL_law_1979 ?_
  refine J_aload_n rfl (i := 0) rfl dL_law_1980 ?_
  refine J_iload (i := 4) rfl dL_law_1981 ?_
  refine J_iconst (v := 3) (by decide) dL_law_1983 ?_
  refine J_iadd dL_law_1984 ?_
  refine J_sld (nI_add k 3) (by omega) hL dL_law_1985 ?_
  refine J_callV (as := [.int (Gs G (k + 1)), .int (Gs G (k + 2)), .int (Gs G (k + 3))]) (k := 63) (st := []) cal_X10_strikes cai_X10_strikes gw_1923 ⟨by decide, by decide⟩ cnt_X10_strikes sh_63 rfl rfl (Nat.le_of_ble_eq_true rfl) dL_law_1986 (Nat.zero_add _).symm (Nat.zero_add _).symm h2 ?_
  refine J_istore [(6, .int bb), (5, .int kk), (4, .int (nI k)), (3, .ref 85), (2, .ref 63), (1, .ref 0), (0, .ref 1000)] (i := 6) (by decide) rfl dL_law_1989 ?_
  refine J_aload_n rfl (i := 2) rfl dL_law_1991 ?_
  refine J_callV (as := []) (k := 63) (st := []) cal_X10_thrown cai_X10_thrown gw_1557 ⟨by decide, by decide⟩ cnt_X10_thrown sh_63 rfl rfl (Nat.le_of_ble_eq_true rfl) dL_law_1992 (Nat.zero_add _).symm (Nat.zero_add _).symm th_hyp ?_
  refine J_iload (i := 5) rfl dL_law_1995 ?_
  refine J_icmp_eq (tgt := 2002) dL_law_1997 (by decide) (fun _ => ?_) (fun hn => absurd h3 hn)
  refine J_iload (i := 5) rfl dL_law_2002 ?_
  refine J_if_ne (tgt := 2019) dL_law_2004 (by decide) (fun _ => ?_) (fun h0 => ?_)
  · refine J_goto (tgt := 3001) dL_law_2019 (by decide) ?_
    refine J_iinc [(4, .int (nI k + 6)), (6, .int bb), (5, .int kk), (3, .ref 85), (2, .ref 63), (1, .ref 0), (0, .ref 1000)] (i := 4) (v := nI k + 6) rfl rfl (by decide) rfl dL_law_3001 ?_
    refine J_goto (tgt := 23) dL_law_3004 (by decide) ?_
    exact J_sub [0, 3, 4, 5, 6] rfl hz
  · refine J_aload_n rfl (i := 3) rfl dL_law_2007 ?_
    refine J_iconst (v := 0) (by decide) dL_law_2008 ?_
    refine J_lald sh_85 (by unfold vp_in; decide) dL_law_2009 ?_
    refine J_iload (i := 6) rfl dL_law_2010 ?_
    refine J_i2l dL_law_2012 ?_
    refine J_lcmp dL_law_2013 ?_
    refine J_if_eq (tgt := 2019) dL_law_2014 (by decide) (fun _ => ?_) (fun hn => absurd ((lg_cmp_eq _ _).mpr (h4 h0)) hn)
    refine J_goto (tgt := 3001) dL_law_2019 (by decide) ?_
    refine J_iinc [(4, .int (nI k + 6)), (6, .int bb), (5, .int kk), (3, .ref 85), (2, .ref 63), (1, .ref 0), (0, .ref 1000)] (i := 4) (v := nI k + 6) rfl rfl (by decide) rfl dL_law_3001 ?_
    refine J_goto (tgt := 23) dL_law_3004 (by decide) ?_
    exact J_sub [0, 3, 4, 5, 6] rfl hz
theorem law_30 (hk : k + 5 < Gn G) (hL : Gn G < 2 ^ 31) (hop : OpW G I M_L_strikeTogether M_X10_strikeTogether [.int (Gs G (k + 1)), .int (Gs G (k + 2))] cmpI) (hI : I mm) (hc : ∀ mm2 l1, I mm2 → ∃ z, J G M_L_law 23 [(4, .int (nI k + 6)), (3, .ref 85), (2, .ref 63), (1, .ref 0), (0, .ref 1000)] [] (SH, mm2, l1) false o z false a b) :
    ∃ z, J G M_L_law 2022 [(4, .int (nI k)), (3, .ref 85), (2, .ref 63), (1, .ref 0), (0, .ref 1000)] [] (SH, mm, lm) false o z false (a + 1) (b + 6) := by
  obtain ⟨kk, mm1, l1, bb, mm2, h1, h2, h3, h4, h5⟩ := hop mm lm hI
  obtain ⟨z, hz⟩ := hc mm2 l1 h5
  refine ⟨z, ?_⟩
  refine J_aload_n rfl (i := 1) rfl dL_law_2022 ?_
  refine J_aload_n rfl (i := 0) rfl dL_law_2023 ?_
  refine J_iload (i := 4) rfl dL_law_2024 ?_
  refine J_iconst (v := 1) (by decide) dL_law_2026 ?_
  refine J_iadd dL_law_2027 ?_
  refine J_sld (nI_add k 1) (by omega) hL dL_law_2028 ?_
  refine J_aload_n rfl (i := 0) rfl dL_law_2029 ?_
  refine J_iload (i := 4) rfl dL_law_2030 ?_
  refine J_iconst (v := 2) (by decide) dL_law_2032 ?_
  refine J_iadd dL_law_2033 ?_
  refine J_sld (nI_add k 2) (by omega) hL dL_law_2034 ?_
  refine J_aload_n rfl (i := 3) rfl dL_law_2035 ?_
  refine J_callSH (Mc := M_L_strikeTogether) (as := [.ref 0, .int (Gs G (k + 1)), .int (Gs G (k + 2)), .ref 85]) (st := []) rfl gw_1200 gw_107 ⟨by decide, by decide⟩ gw_1199 gw_1198 ⟨by decide, by decide⟩ cnt_L_strikeTogether rfl (Nat.le_of_ble_eq_true rfl) dL_law_2036 (Nat.add_comm a 1) (Nat.add_comm b 6) h1 ?_
  refine J_istore [(5, .int kk), (4, .int (nI k)), (3, .ref 85), (2, .ref 63), (1, .ref 0), (0, .ref 1000)] (i := 5) (by decide) rfl dL_law_2039 ?_
  refine J_aload_n rfl (i := 2) rfl dL_law_2041 ?_
  refine J_aload_n rfl (i := 0) rfl dL_law_2042 ?_
  refine J_iload (i := 4) rfl dL_law_2043 ?_
  refine J_iconst (v := 1) (by decide) dL_law_2045 ?_
  refine J_iadd dL_law_2046 ?_
  refine J_sld (nI_add k 1) (by omega) hL dL_law_2047 ?_
  refine J_aload_n rfl (i := 0) rfl dL_law_2048 ?_
  refine J_iload (i := 4) rfl dL_law_2049 ?_
  refine J_iconst (v := 2) (by decide) dL_law_2051 ?_
  refine J_iadd dL_law_2052 ?_
  refine J_sld (nI_add k 2) (by omega) hL dL_law_2053 ?_
  refine J_callV (as := [.int (Gs G (k + 1)), .int (Gs G (k + 2))]) (k := 63) (st := []) cal_X10_strikeTogether cai_X10_strikeTogether gw_1931 ⟨by decide, by decide⟩ cnt_X10_strikeTogether sh_63 rfl rfl (Nat.le_of_ble_eq_true rfl) dL_law_2054 (Nat.zero_add _).symm (Nat.zero_add _).symm h2 ?_
  refine J_istore [(6, .int bb), (5, .int kk), (4, .int (nI k)), (3, .ref 85), (2, .ref 63), (1, .ref 0), (0, .ref 1000)] (i := 6) (by decide) rfl dL_law_2057 ?_
  refine J_aload_n rfl (i := 2) rfl dL_law_2059 ?_
  refine J_callV (as := []) (k := 63) (st := []) cal_X10_thrown cai_X10_thrown gw_1557 ⟨by decide, by decide⟩ cnt_X10_thrown sh_63 rfl rfl (Nat.le_of_ble_eq_true rfl) dL_law_2060 (Nat.zero_add _).symm (Nat.zero_add _).symm th_hyp ?_
  refine J_iload (i := 5) rfl dL_law_2063 ?_
  refine J_icmp_eq (tgt := 2070) dL_law_2065 (by decide) (fun _ => ?_) (fun hn => absurd h3 hn)
  refine J_iload (i := 5) rfl dL_law_2070 ?_
  refine J_if_ne (tgt := 2087) dL_law_2072 (by decide) (fun _ => ?_) (fun h0 => ?_)
  · refine J_goto (tgt := 3001) dL_law_2087 (by decide) ?_
    refine J_iinc [(4, .int (nI k + 6)), (6, .int bb), (5, .int kk), (3, .ref 85), (2, .ref 63), (1, .ref 0), (0, .ref 1000)] (i := 4) (v := nI k + 6) rfl rfl (by decide) rfl dL_law_3001 ?_
    refine J_goto (tgt := 23) dL_law_3004 (by decide) ?_
    exact J_sub [0, 3, 4, 5, 6] rfl hz
  · refine J_aload_n rfl (i := 3) rfl dL_law_2075 ?_
    refine J_iconst (v := 0) (by decide) dL_law_2076 ?_
    refine J_lald sh_85 (by unfold vp_in; decide) dL_law_2077 ?_
    refine J_iload (i := 6) rfl dL_law_2078 ?_
    refine J_i2l dL_law_2080 ?_
    refine J_lcmp dL_law_2081 ?_
    refine J_if_eq (tgt := 2087) dL_law_2082 (by decide) (fun _ => ?_) (fun hn => absurd ((lg_cmp_eq _ _).mpr (h4 h0)) hn)
    refine J_goto (tgt := 3001) dL_law_2087 (by decide) ?_
    refine J_iinc [(4, .int (nI k + 6)), (6, .int bb), (5, .int kk), (3, .ref 85), (2, .ref 63), (1, .ref 0), (0, .ref 1000)] (i := 4) (v := nI k + 6) rfl rfl (by decide) rfl dL_law_3001 ?_
    refine J_goto (tgt := 23) dL_law_3004 (by decide) ?_
    exact J_sub [0, 3, 4, 5, 6] rfl hz
theorem law_31 (hk : k + 5 < Gn G) (hL : Gn G < 2 ^ 31) (hop : OpW G I M_L_setChime M_X10_setChime [.int (Gs G (k + 1)), .int (Gs G (k + 2)), .int (Gs G (k + 3))] cmpI) (hI : I mm) (hc : ∀ mm2 l1, I mm2 → ∃ z, J G M_L_law 23 [(4, .int (nI k + 6)), (3, .ref 85), (2, .ref 63), (1, .ref 0), (0, .ref 1000)] [] (SH, mm2, l1) false o z false a b) :
    ∃ z, J G M_L_law 2090 [(4, .int (nI k)), (3, .ref 85), (2, .ref 63), (1, .ref 0), (0, .ref 1000)] [] (SH, mm, lm) false o z false (a + 1) (b + 6) := by
  obtain ⟨kk, mm1, l1, bb, mm2, h1, h2, h3, h4, h5⟩ := hop mm lm hI
  obtain ⟨z, hz⟩ := hc mm2 l1 h5
  refine ⟨z, ?_⟩
  refine J_aload_n rfl (i := 1) rfl dL_law_2090 ?_
  refine J_aload_n rfl (i := 0) rfl dL_law_2091 ?_
  refine J_iload (i := 4) rfl dL_law_2092 ?_
  refine J_iconst (v := 1) (by decide) dL_law_2094 ?_
  refine J_iadd dL_law_2095 ?_
  refine J_sld (nI_add k 1) (by omega) hL dL_law_2096 ?_
  refine J_aload_n rfl (i := 0) rfl dL_law_2097 ?_
  refine J_iload (i := 4) rfl dL_law_2098 ?_
  refine J_iconst (v := 2) (by decide) dL_law_2100 ?_
  refine J_iadd dL_law_2101 ?_
  refine J_sld (nI_add k 2) (by omega) hL dL_law_2102 ?_
  refine J_aload_n rfl (i := 0) rfl dL_law_2103 ?_
  refine J_iload (i := 4) rfl dL_law_2104 ?_
  refine J_iconst (v := 3) (by decide) dL_law_2106 ?_
  refine J_iadd dL_law_2107 ?_
  refine J_sld (nI_add k 3) (by omega) hL dL_law_2108 ?_
  refine J_aload_n rfl (i := 3) rfl dL_law_2109 ?_
  refine J_callSH (Mc := M_L_setChime) (as := [.ref 0, .int (Gs G (k + 1)), .int (Gs G (k + 2)), .int (Gs G (k + 3)), .ref 85]) (st := []) rfl gw_1211 gw_107 ⟨by decide, by decide⟩ gw_1210 gw_1209 ⟨by decide, by decide⟩ cnt_L_setChime rfl (Nat.le_of_ble_eq_true rfl) dL_law_2110 (Nat.add_comm a 1) (Nat.add_comm b 6) h1 ?_
  refine J_istore [(5, .int kk), (4, .int (nI k)), (3, .ref 85), (2, .ref 63), (1, .ref 0), (0, .ref 1000)] (i := 5) (by decide) rfl dL_law_2113 ?_
  refine J_aload_n rfl (i := 2) rfl dL_law_2115 ?_
  refine J_aload_n rfl (i := 0) rfl dL_law_2116 ?_
  refine J_iload (i := 4) rfl dL_law_2117 ?_
  refine J_iconst (v := 1) (by decide) dL_law_2119 ?_
  refine J_iadd dL_law_2120 ?_
  refine J_sld (nI_add k 1) (by omega) hL dL_law_2121 ?_
  refine J_aload_n rfl (i := 0) rfl dL_law_2122 ?_
  refine J_iload (i := 4) rfl dL_law_2123 ?_
  refine J_iconst (v := 2) (by decide) dL_law_2125 ?_
  refine J_iadd dL_law_2126 ?_
  refine J_sld (nI_add k 2) (by omega) hL dL_law_2127 ?_
  refine J_aload_n rfl (i := 0) rfl dL_law_2128 ?_
  refine J_iload (i := 4) rfl dL_law_2129 ?_
  refine J_iconst (v := 3) (by decide) dL_law_2131 ?_
  refine J_iadd dL_law_2132 ?_
  refine J_sld (nI_add k 3) (by omega) hL dL_law_2133 ?_
  refine J_callV (as := [.int (Gs G (k + 1)), .int (Gs G (k + 2)), .int (Gs G (k + 3))]) (k := 63) (st := []) cal_X10_setChime cai_X10_setChime gw_1935 ⟨by decide, by decide⟩ cnt_X10_setChime sh_63 rfl rfl (Nat.le_of_ble_eq_true rfl) dL_law_2134 (Nat.zero_add _).symm (Nat.zero_add _).symm h2 ?_
  refine J_istore [(6, .int bb), (5, .int kk), (4, .int (nI k)), (3, .ref 85), (2, .ref 63), (1, .ref 0), (0, .ref 1000)] (i := 6) (by decide) rfl dL_law_2137 ?_
  refine J_aload_n rfl (i := 2) rfl dL_law_2139 ?_
  refine J_callV (as := []) (k := 63) (st := []) cal_X10_thrown cai_X10_thrown gw_1557 ⟨by decide, by decide⟩ cnt_X10_thrown sh_63 rfl rfl (Nat.le_of_ble_eq_true rfl) dL_law_2140 (Nat.zero_add _).symm (Nat.zero_add _).symm th_hyp ?_
  refine J_iload (i := 5) rfl dL_law_2143 ?_
  refine J_icmp_eq (tgt := 2150) dL_law_2145 (by decide) (fun _ => ?_) (fun hn => absurd h3 hn)
  refine J_iload (i := 5) rfl dL_law_2150 ?_
  refine J_if_ne (tgt := 2167) dL_law_2152 (by decide) (fun _ => ?_) (fun h0 => ?_)
  · refine J_goto (tgt := 3001) dL_law_2167 (by decide) ?_
    refine J_iinc [(4, .int (nI k + 6)), (6, .int bb), (5, .int kk), (3, .ref 85), (2, .ref 63), (1, .ref 0), (0, .ref 1000)] (i := 4) (v := nI k + 6) rfl rfl (by decide) rfl dL_law_3001 ?_
    refine J_goto (tgt := 23) dL_law_3004 (by decide) ?_
    exact J_sub [0, 3, 4, 5, 6] rfl hz
  · refine J_aload_n rfl (i := 3) rfl dL_law_2155 ?_
    refine J_iconst (v := 0) (by decide) dL_law_2156 ?_
    refine J_lald sh_85 (by unfold vp_in; decide) dL_law_2157 ?_
    refine J_iload (i := 6) rfl dL_law_2158 ?_
    refine J_i2l dL_law_2160 ?_
    refine J_lcmp dL_law_2161 ?_
    refine J_if_eq (tgt := 2167) dL_law_2162 (by decide) (fun _ => ?_) (fun hn => absurd ((lg_cmp_eq _ _).mpr (h4 h0)) hn)
    refine J_goto (tgt := 3001) dL_law_2167 (by decide) ?_
    refine J_iinc [(4, .int (nI k + 6)), (6, .int bb), (5, .int kk), (3, .ref 85), (2, .ref 63), (1, .ref 0), (0, .ref 1000)] (i := 4) (v := nI k + 6) rfl rfl (by decide) rfl dL_law_3001 ?_
    refine J_goto (tgt := 23) dL_law_3004 (by decide) ?_
    exact J_sub [0, 3, 4, 5, 6] rfl hz
theorem law_32 (hk : k + 5 < Gn G) (hL : Gn G < 2 ^ 31) (hop : OpW G I M_L_clearChime M_X10_clearChime [.int (Gs G (k + 1))] cmpI) (hI : I mm) (hc : ∀ mm2 l1, I mm2 → ∃ z, J G M_L_law 23 [(4, .int (nI k + 6)), (3, .ref 85), (2, .ref 63), (1, .ref 0), (0, .ref 1000)] [] (SH, mm2, l1) false o z false a b) :
    ∃ z, J G M_L_law 2170 [(4, .int (nI k)), (3, .ref 85), (2, .ref 63), (1, .ref 0), (0, .ref 1000)] [] (SH, mm, lm) false o z false (a + 1) (b + 6) := by
  obtain ⟨kk, mm1, l1, bb, mm2, h1, h2, h3, h4, h5⟩ := hop mm lm hI
  obtain ⟨z, hz⟩ := hc mm2 l1 h5
  refine ⟨z, ?_⟩
  refine J_aload_n rfl (i := 1) rfl dL_law_2170 ?_
  refine J_aload_n rfl (i := 0) rfl dL_law_2171 ?_
  refine J_iload (i := 4) rfl dL_law_2172 ?_
  refine J_iconst (v := 1) (by decide) dL_law_2174 ?_
  refine J_iadd dL_law_2175 ?_
  refine J_sld (nI_add k 1) (by omega) hL dL_law_2176 ?_
  refine J_aload_n rfl (i := 3) rfl dL_law_2177 ?_
  refine J_callSH (Mc := M_L_clearChime) (as := [.ref 0, .int (Gs G (k + 1)), .ref 85]) (st := []) rfl gw_1218 gw_107 ⟨by decide, by decide⟩ gw_1217 gw_1216 ⟨by decide, by decide⟩ cnt_L_clearChime rfl (Nat.le_of_ble_eq_true rfl) dL_law_2178 (Nat.add_comm a 1) (Nat.add_comm b 6) h1 ?_
  refine J_istore [(5, .int kk), (4, .int (nI k)), (3, .ref 85), (2, .ref 63), (1, .ref 0), (0, .ref 1000)] (i := 5) (by decide) rfl dL_law_2181 ?_
  refine J_aload_n rfl (i := 2) rfl dL_law_2183 ?_
  refine J_aload_n rfl (i := 0) rfl dL_law_2184 ?_
  refine J_iload (i := 4) rfl dL_law_2185 ?_
  refine J_iconst (v := 1) (by decide) dL_law_2187 ?_
  refine J_iadd dL_law_2188 ?_
  refine J_sld (nI_add k 1) (by omega) hL dL_law_2189 ?_
  refine J_callV (as := [.int (Gs G (k + 1))]) (k := 63) (st := []) cal_X10_clearChime cai_X10_clearChime gw_1941 ⟨by decide, by decide⟩ cnt_X10_clearChime sh_63 rfl rfl (Nat.le_of_ble_eq_true rfl) dL_law_2190 (Nat.zero_add _).symm (Nat.zero_add _).symm h2 ?_
  refine J_istore [(6, .int bb), (5, .int kk), (4, .int (nI k)), (3, .ref 85), (2, .ref 63), (1, .ref 0), (0, .ref 1000)] (i := 6) (by decide) rfl dL_law_2193 ?_
  refine J_aload_n rfl (i := 2) rfl dL_law_2195 ?_
  refine J_callV (as := []) (k := 63) (st := []) cal_X10_thrown cai_X10_thrown gw_1557 ⟨by decide, by decide⟩ cnt_X10_thrown sh_63 rfl rfl (Nat.le_of_ble_eq_true rfl) dL_law_2196 (Nat.zero_add _).symm (Nat.zero_add _).symm th_hyp ?_
  refine J_iload (i := 5) rfl dL_law_2199 ?_
  refine J_icmp_eq (tgt := 2206) dL_law_2201 (by decide) (fun _ => ?_) (fun hn => absurd h3 hn)
  refine J_iload (i := 5) rfl dL_law_2206 ?_
  refine J_if_ne (tgt := 2223) dL_law_2208 (by decide) (fun _ => ?_) (fun h0 => ?_)
  · refine J_goto (tgt := 3001) dL_law_2223 (by decide) ?_
    refine J_iinc [(4, .int (nI k + 6)), (6, .int bb), (5, .int kk), (3, .ref 85), (2, .ref 63), (1, .ref 0), (0, .ref 1000)] (i := 4) (v := nI k + 6) rfl rfl (by decide) rfl dL_law_3001 ?_
    refine J_goto (tgt := 23) dL_law_3004 (by decide) ?_
    exact J_sub [0, 3, 4, 5, 6] rfl hz
  · refine J_aload_n rfl (i := 3) rfl dL_law_2211 ?_
    refine J_iconst (v := 0) (by decide) dL_law_2212 ?_
    refine J_lald sh_85 (by unfold vp_in; decide) dL_law_2213 ?_
    refine J_iload (i := 6) rfl dL_law_2214 ?_
    refine J_i2l dL_law_2216 ?_
    refine J_lcmp dL_law_2217 ?_
    refine J_if_eq (tgt := 2223) dL_law_2218 (by decide) (fun _ => ?_) (fun hn => absurd ((lg_cmp_eq _ _).mpr (h4 h0)) hn)
    refine J_goto (tgt := 3001) dL_law_2223 (by decide) ?_
    refine J_iinc [(4, .int (nI k + 6)), (6, .int bb), (5, .int kk), (3, .ref 85), (2, .ref 63), (1, .ref 0), (0, .ref 1000)] (i := 4) (v := nI k + 6) rfl rfl (by decide) rfl dL_law_3001 ?_
    refine J_goto (tgt := 23) dL_law_3004 (by decide) ?_
    exact J_sub [0, 3, 4, 5, 6] rfl hz
theorem law_33 (hk : k + 5 < Gn G) (hL : Gn G < 2 ^ 31) (hop : OpW G I M_L_isQuiet M_X10_isQuiet [.int (Gs G (k + 1))] cmpB) (hI : I mm) (hc : ∀ mm2 l1, I mm2 → ∃ z, J G M_L_law 23 [(4, .int (nI k + 6)), (3, .ref 85), (2, .ref 63), (1, .ref 0), (0, .ref 1000)] [] (SH, mm2, l1) false o z false a b) :
    ∃ z, J G M_L_law 2226 [(4, .int (nI k)), (3, .ref 85), (2, .ref 63), (1, .ref 0), (0, .ref 1000)] [] (SH, mm, lm) false o z false (a + 1) (b + 6) := by
  obtain ⟨kk, mm1, l1, bb, mm2, h1, h2, h3, h4, h5⟩ := hop mm lm hI
  obtain ⟨z, hz⟩ := hc mm2 l1 h5
  refine ⟨z, ?_⟩
  refine J_aload_n rfl (i := 1) rfl dL_law_2226 ?_
  refine J_aload_n rfl (i := 0) rfl dL_law_2227 ?_
  refine J_iload (i := 4) rfl dL_law_2228 ?_
  refine J_iconst (v := 1) (by decide) dL_law_2230 ?_
  refine J_iadd dL_law_2231 ?_
  refine J_sld (nI_add k 1) (by omega) hL dL_law_2232 ?_
  refine J_aload_n rfl (i := 3) rfl dL_law_2233 ?_
  refine J_callSH (Mc := M_L_isQuiet) (as := [.ref 0, .int (Gs G (k + 1)), .ref 85]) (st := []) rfl gw_1234 gw_107 ⟨by decide, by decide⟩ gw_1233 gw_1232 ⟨by decide, by decide⟩ cnt_L_isQuiet rfl (Nat.le_of_ble_eq_true rfl) dL_law_2234 (Nat.add_comm a 1) (Nat.add_comm b 6) h1 ?_
  refine J_istore [(5, .int kk), (4, .int (nI k)), (3, .ref 85), (2, .ref 63), (1, .ref 0), (0, .ref 1000)] (i := 5) (by decide) rfl dL_law_2237 ?_
  refine J_aload_n rfl (i := 2) rfl dL_law_2239 ?_
  refine J_aload_n rfl (i := 0) rfl dL_law_2240 ?_
  refine J_iload (i := 4) rfl dL_law_2241 ?_
  refine J_iconst (v := 1) (by decide) dL_law_2243 ?_
  refine J_iadd dL_law_2244 ?_
  refine J_sld (nI_add k 1) (by omega) hL dL_law_2245 ?_
  refine J_callV (as := [.int (Gs G (k + 1))]) (k := 63) (st := []) cal_X10_isQuiet cai_X10_isQuiet gw_1949 ⟨by decide, by decide⟩ cnt_X10_isQuiet sh_63 rfl rfl (Nat.le_of_ble_eq_true rfl) dL_law_2246 (Nat.zero_add _).symm (Nat.zero_add _).symm h2 ?_
  refine J_istore [(6, .int bb), (5, .int kk), (4, .int (nI k)), (3, .ref 85), (2, .ref 63), (1, .ref 0), (0, .ref 1000)] (i := 6) (by decide) rfl dL_law_2249 ?_
  refine J_aload_n rfl (i := 2) rfl dL_law_2251 ?_
  refine J_callV (as := []) (k := 63) (st := []) cal_X10_thrown cai_X10_thrown gw_1557 ⟨by decide, by decide⟩ cnt_X10_thrown sh_63 rfl rfl (Nat.le_of_ble_eq_true rfl) dL_law_2252 (Nat.zero_add _).symm (Nat.zero_add _).symm th_hyp ?_
  refine J_iload (i := 5) rfl dL_law_2255 ?_
  refine J_icmp_eq (tgt := 2262) dL_law_2257 (by decide) (fun _ => ?_) (fun hn => absurd h3 hn)
  refine J_iload (i := 5) rfl dL_law_2262 ?_
  refine J_if_ne (tgt := 2286) dL_law_2264 (by decide) (fun _ => ?_) (fun h0 => ?_)
  · refine J_goto (tgt := 3001) dL_law_2286 (by decide) ?_
    refine J_iinc [(4, .int (nI k + 6)), (6, .int bb), (5, .int kk), (3, .ref 85), (2, .ref 63), (1, .ref 0), (0, .ref 1000)] (i := 4) (v := nI k + 6) rfl rfl (by decide) rfl dL_law_3001 ?_
    refine J_goto (tgt := 23) dL_law_3004 (by decide) ?_
    exact J_sub [0, 3, 4, 5, 6] rfl hz
  · refine J_aload_n rfl (i := 3) rfl dL_law_2267 ?_
    refine J_iconst (v := 0) (by decide) dL_law_2268 ?_
    refine J_lald sh_85 (by unfold vp_in; decide) dL_law_2269 ?_
    refine J_iload (i := 6) rfl dL_law_2270 ?_
    refine J_if_eq (tgt := 2279) dL_law_2272 (by decide) (fun hb0 => ?_) (fun hb0 => ?_)
    · refine J_lconst (v := 0) (by decide) dL_law_2279 ?_
      refine J_lcmp dL_law_2280 ?_
      refine J_if_eq (tgt := 2286) dL_law_2281 (by decide) (fun _ => ?_) (fun hn => absurd ((lg_cmp_eq _ _).mpr ((h4 h0).trans (if_pos hb0))) hn)
      refine J_goto (tgt := 3001) dL_law_2286 (by decide) ?_
      refine J_iinc [(4, .int (nI k + 6)), (6, .int bb), (5, .int kk), (3, .ref 85), (2, .ref 63), (1, .ref 0), (0, .ref 1000)] (i := 4) (v := nI k + 6) rfl rfl (by decide) rfl dL_law_3001 ?_
      refine J_goto (tgt := 23) dL_law_3004 (by decide) ?_
      exact J_sub [0, 3, 4, 5, 6] rfl hz
    · refine J_lconst (v := 1) (by decide) dL_law_2275 ?_
      refine J_goto (tgt := 2280) dL_law_2276 (by decide) ?_
      refine J_lcmp dL_law_2280 ?_
      refine J_if_eq (tgt := 2286) dL_law_2281 (by decide) (fun _ => ?_) (fun hn => absurd ((lg_cmp_eq _ _).mpr ((h4 h0).trans (if_neg hb0))) hn)
      refine J_goto (tgt := 3001) dL_law_2286 (by decide) ?_
      refine J_iinc [(4, .int (nI k + 6)), (6, .int bb), (5, .int kk), (3, .ref 85), (2, .ref 63), (1, .ref 0), (0, .ref 1000)] (i := 4) (v := nI k + 6) rfl rfl (by decide) rfl dL_law_3001 ?_
      refine J_goto (tgt := 23) dL_law_3004 (by decide) ?_
      exact J_sub [0, 3, 4, 5, 6] rfl hz
theorem law_34 (hk : k + 5 < Gn G) (hL : Gn G < 2 ^ 31) (hop : OpW G I M_L_quietMinutes M_X10_quietMinutes [] cmpI) (hI : I mm) (hc : ∀ mm2 l1, I mm2 → ∃ z, J G M_L_law 23 [(4, .int (nI k + 6)), (3, .ref 85), (2, .ref 63), (1, .ref 0), (0, .ref 1000)] [] (SH, mm2, l1) false o z false a b) :
    ∃ z, J G M_L_law 2289 [(4, .int (nI k)), (3, .ref 85), (2, .ref 63), (1, .ref 0), (0, .ref 1000)] [] (SH, mm, lm) false o z false (a + 1) (b + 6) := by
  obtain ⟨kk, mm1, l1, bb, mm2, h1, h2, h3, h4, h5⟩ := hop mm lm hI
  obtain ⟨z, hz⟩ := hc mm2 l1 h5
  refine ⟨z, ?_⟩
  refine J_aload_n rfl (i := 1) rfl dL_law_2289 ?_
  refine J_aload_n rfl (i := 3) rfl dL_law_2290 ?_
  refine J_callSH (Mc := M_L_quietMinutes) (as := [.ref 0, .ref 85]) (st := []) rfl gw_1241 gw_107 ⟨by decide, by decide⟩ gw_1240 gw_1239 ⟨by decide, by decide⟩ cnt_L_quietMinutes rfl (Nat.le_of_ble_eq_true rfl) dL_law_2291 (Nat.add_comm a 1) (Nat.add_comm b 6) h1 ?_
  refine J_istore [(5, .int kk), (4, .int (nI k)), (3, .ref 85), (2, .ref 63), (1, .ref 0), (0, .ref 1000)] (i := 5) (by decide) rfl dL_law_2294 ?_
  refine J_aload_n rfl (i := 2) rfl dL_law_2296 ?_
  refine J_callV (as := []) (k := 63) (st := []) cal_X10_quietMinutes cai_X10_quietMinutes gw_1957 ⟨by decide, by decide⟩ cnt_X10_quietMinutes sh_63 rfl rfl (Nat.le_of_ble_eq_true rfl) dL_law_2297 (Nat.zero_add _).symm (Nat.zero_add _).symm h2 ?_
  refine J_istore [(6, .int bb), (5, .int kk), (4, .int (nI k)), (3, .ref 85), (2, .ref 63), (1, .ref 0), (0, .ref 1000)] (i := 6) (by decide) rfl dL_law_2300 ?_
  refine J_aload_n rfl (i := 2) rfl dL_law_2302 ?_
  refine J_callV (as := []) (k := 63) (st := []) cal_X10_thrown cai_X10_thrown gw_1557 ⟨by decide, by decide⟩ cnt_X10_thrown sh_63 rfl rfl (Nat.le_of_ble_eq_true rfl) dL_law_2303 (Nat.zero_add _).symm (Nat.zero_add _).symm th_hyp ?_
  refine J_iload (i := 5) rfl dL_law_2306 ?_
  refine J_icmp_eq (tgt := 2313) dL_law_2308 (by decide) (fun _ => ?_) (fun hn => absurd h3 hn)
  refine J_iload (i := 5) rfl dL_law_2313 ?_
  refine J_if_ne (tgt := 2330) dL_law_2315 (by decide) (fun _ => ?_) (fun h0 => ?_)
  · refine J_goto (tgt := 3001) dL_law_2330 (by decide) ?_
    refine J_iinc [(4, .int (nI k + 6)), (6, .int bb), (5, .int kk), (3, .ref 85), (2, .ref 63), (1, .ref 0), (0, .ref 1000)] (i := 4) (v := nI k + 6) rfl rfl (by decide) rfl dL_law_3001 ?_
    refine J_goto (tgt := 23) dL_law_3004 (by decide) ?_
    exact J_sub [0, 3, 4, 5, 6] rfl hz
  · refine J_aload_n rfl (i := 3) rfl dL_law_2318 ?_
    refine J_iconst (v := 0) (by decide) dL_law_2319 ?_
    refine J_lald sh_85 (by unfold vp_in; decide) dL_law_2320 ?_
    refine J_iload (i := 6) rfl dL_law_2321 ?_
    refine J_i2l dL_law_2323 ?_
    refine J_lcmp dL_law_2324 ?_
    refine J_if_eq (tgt := 2330) dL_law_2325 (by decide) (fun _ => ?_) (fun hn => absurd ((lg_cmp_eq _ _).mpr (h4 h0)) hn)
    refine J_goto (tgt := 3001) dL_law_2330 (by decide) ?_
    refine J_iinc [(4, .int (nI k + 6)), (6, .int bb), (5, .int kk), (3, .ref 85), (2, .ref 63), (1, .ref 0), (0, .ref 1000)] (i := 4) (v := nI k + 6) rfl rfl (by decide) rfl dL_law_3001 ?_
    refine J_goto (tgt := 23) dL_law_3004 (by decide) ?_
    exact J_sub [0, 3, 4, 5, 6] rfl hz
theorem law_35 (hk : k + 5 < Gn G) (hL : Gn G < 2 ^ 31) (hop : OpW G I M_L_longestLoud M_X10_longestLoud [] cmpI) (hI : I mm) (hc : ∀ mm2 l1, I mm2 → ∃ z, J G M_L_law 23 [(4, .int (nI k + 6)), (3, .ref 85), (2, .ref 63), (1, .ref 0), (0, .ref 1000)] [] (SH, mm2, l1) false o z false a b) :
    ∃ z, J G M_L_law 2333 [(4, .int (nI k)), (3, .ref 85), (2, .ref 63), (1, .ref 0), (0, .ref 1000)] [] (SH, mm, lm) false o z false (a + 1) (b + 6) := by
  obtain ⟨kk, mm1, l1, bb, mm2, h1, h2, h3, h4, h5⟩ := hop mm lm hI
  obtain ⟨z, hz⟩ := hc mm2 l1 h5
  refine ⟨z, ?_⟩
  refine J_aload_n rfl (i := 1) rfl dL_law_2333 ?_
  refine J_aload_n rfl (i := 3) rfl dL_law_2334 ?_
  refine J_callSH (Mc := M_L_longestLoud) (as := [.ref 0, .ref 85]) (st := []) rfl gw_1252 gw_107 ⟨by decide, by decide⟩ gw_1251 gw_1250 ⟨by decide, by decide⟩ cnt_L_longestLoud rfl (Nat.le_of_ble_eq_true rfl) dL_law_2335 (Nat.add_comm a 1) (Nat.add_comm b 6) h1 ?_
  refine J_istore [(5, .int kk), (4, .int (nI k)), (3, .ref 85), (2, .ref 63), (1, .ref 0), (0, .ref 1000)] (i := 5) (by decide) rfl dL_law_2338 ?_
  refine J_aload_n rfl (i := 2) rfl dL_law_2340 ?_
  refine J_callV (as := []) (k := 63) (st := []) cal_X10_longestLoud cai_X10_longestLoud gw_1961 ⟨by decide, by decide⟩ cnt_X10_longestLoud sh_63 rfl rfl (Nat.le_of_ble_eq_true rfl) dL_law_2341 (Nat.zero_add _).symm (Nat.zero_add _).symm h2 ?_
  refine J_istore [(6, .int bb), (5, .int kk), (4, .int (nI k)), (3, .ref 85), (2, .ref 63), (1, .ref 0), (0, .ref 1000)] (i := 6) (by decide) rfl dL_law_2344 ?_
  refine J_aload_n rfl (i := 2) rfl dL_law_2346 ?_
  refine J_callV (as := []) (k := 63) (st := []) cal_X10_thrown cai_X10_thrown gw_1557 ⟨by decide, by decide⟩ cnt_X10_thrown sh_63 rfl rfl (Nat.le_of_ble_eq_true rfl) dL_law_2347 (Nat.zero_add _).symm (Nat.zero_add _).symm th_hyp ?_
  refine J_iload (i := 5) rfl dL_law_2350 ?_
  refine J_icmp_eq (tgt := 2357) dL_law_2352 (by decide) (fun _ => ?_) (fun hn => absurd h3 hn)
  refine J_iload (i := 5) rfl dL_law_2357 ?_
  refine J_if_ne (tgt := 2374) dL_law_2359 (by decide) (fun _ => ?_) (fun h0 => ?_)
  · refine J_goto (tgt := 3001) dL_law_2374 (by decide) ?_
    refine J_iinc [(4, .int (nI k + 6)), (6, .int bb), (5, .int kk), (3, .ref 85), (2, .ref 63), (1, .ref 0), (0, .ref 1000)] (i := 4) (v := nI k + 6) rfl rfl (by decide) rfl dL_law_3001 ?_
    refine J_goto (tgt := 23) dL_law_3004 (by decide) ?_
    exact J_sub [0, 3, 4, 5, 6] rfl hz
  · refine J_aload_n rfl (i := 3) rfl dL_law_2362 ?_
    refine J_iconst (v := 0) (by decide) dL_law_2363 ?_
    refine J_lald sh_85 (by unfold vp_in; decide) dL_law_2364 ?_
    refine J_iload (i := 6) rfl dL_law_2365 ?_
    refine J_i2l dL_law_2367 ?_
    refine J_lcmp dL_law_2368 ?_
    refine J_if_eq (tgt := 2374) dL_law_2369 (by decide) (fun _ => ?_) (fun hn => absurd ((lg_cmp_eq _ _).mpr (h4 h0)) hn)
    refine J_goto (tgt := 3001) dL_law_2374 (by decide) ?_
    refine J_iinc [(4, .int (nI k + 6)), (6, .int bb), (5, .int kk), (3, .ref 85), (2, .ref 63), (1, .ref 0), (0, .ref 1000)] (i := 4) (v := nI k + 6) rfl rfl (by decide) rfl dL_law_3001 ?_
    refine J_goto (tgt := 23) dL_law_3004 (by decide) ?_
    exact J_sub [0, 3, 4, 5, 6] rfl hz
end Law
