/-! one call of the script -/
section Law
variable {G : Gx} {I : (Nat → Nat → Int32) → Prop} {mm : Nat → Nat → Int32} {lm : Nat → Int64} {o : Ou} {a b k : Nat}
theorem and63 (x : Int32) : 0 ≤ (x &&& 63).toInt ∧ (x &&& 63).toInt ≤ 63 := by
  have h : (x &&& 63).toBitVec.toNat ≤ 63 := by
    show (x.toBitVec &&& (63 : Int32).toBitVec).toNat ≤ 63
    rw [BitVec.toNat_and]
    exact Nat.le_trans Nat.and_le_right (by decide)
  have e : (x &&& 63).toInt = ((x &&& 63).toBitVec.toNat : Int) := BitVec.toInt_eq_toNat_of_lt (by omega)
  omega
/-- one call of the script -/
theorem law_step (hk : k + 5 < Gn G) (hL : Gn G < 2 ^ 31) (ops : OPS G I) (hI : I mm) (hc : ∀ mm2 l1, I mm2 → ∃ z, J G M_L_law 23 [(4, .int (nI k + 6)), (3, .ref 85), (2, .ref 63), (1, .ref 0), (0, .ref 1000)] [] (SH, mm2, l1) false o z false a b) :
    ∃ z, J G M_L_law 40 [(4, .int (nI k)), (3, .ref 85), (2, .ref 63), (1, .ref 0), (0, .ref 1000)] [.int (Gs G k &&& 63)] (SH, mm, lm) false o z false (a + 1) (b + 6) := by
  have OPSk := ops k hk
  by_cases c0 : (Gs G k &&& 63).toInt = 0
  · obtain ⟨z, hz⟩ := law_0 hk hL (OPSk.1) hI hc
    exact ⟨z, J_tabIn (off := 208) (tgt := 248) dL_law_40 (by omega) (by omega) (by rw [c0]; rfl) (by decide) hz⟩
  by_cases c1 : (Gs G k &&& 63).toInt = 1
  · obtain ⟨z, hz⟩ := law_1 hk hL (OPSk.2.1) hI hc
    exact ⟨z, J_tabIn (off := 312) (tgt := 352) dL_law_40 (by omega) (by omega) (by rw [c1]; rfl) (by decide) hz⟩
  by_cases c2 : (Gs G k &&& 63).toInt = 2
  · obtain ⟨z, hz⟩ := law_2 hk hL (OPSk.2.2.1) hI hc
    exact ⟨z, J_tabIn (off := 368) (tgt := 408) dL_law_40 (by omega) (by omega) (by rw [c2]; rfl) (by decide) hz⟩
  by_cases c3 : (Gs G k &&& 63).toInt = 3
  · obtain ⟨z, hz⟩ := law_3 hk hL (OPSk.2.2.2.1) hI hc
    exact ⟨z, J_tabIn (off := 381) (tgt := 421) dL_law_40 (by omega) (by omega) (by rw [c3]; rfl) (by decide) hz⟩
  by_cases c4 : (Gs G k &&& 63).toInt = 4
  · obtain ⟨z, hz⟩ := law_4 hk hL (OPSk.2.2.2.2.1) hI hc
    exact ⟨z, J_tabIn (off := 394) (tgt := 434) dL_law_40 (by omega) (by omega) (by rw [c4]; rfl) (by decide) hz⟩
  by_cases c5 : (Gs G k &&& 63).toInt = 5
  · obtain ⟨z, hz⟩ := law_5 hk hL (OPSk.2.2.2.2.2.1) hI hc
    exact ⟨z, J_tabIn (off := 474) (tgt := 514) dL_law_40 (by omega) (by omega) (by rw [c5]; rfl) (by decide) hz⟩
  by_cases c6 : (Gs G k &&& 63).toInt = 6
  · obtain ⟨z, hz⟩ := law_6 hk hL (OPSk.2.2.2.2.2.2.1) hI hc
    exact ⟨z, J_tabIn (off := 530) (tgt := 570) dL_law_40 (by omega) (by omega) (by rw [c6]; rfl) (by decide) hz⟩
  by_cases c7 : (Gs G k &&& 63).toInt = 7
  · obtain ⟨z, hz⟩ := law_7 hk hL (OPSk.2.2.2.2.2.2.2.1) hI hc
    exact ⟨z, J_tabIn (off := 598) (tgt := 638) dL_law_40 (by omega) (by omega) (by rw [c7]; rfl) (by decide) hz⟩
  by_cases c8 : (Gs G k &&& 63).toInt = 8
  · obtain ⟨z, hz⟩ := law_8 hk hL (OPSk.2.2.2.2.2.2.2.2.1) hI hc
    exact ⟨z, J_tabIn (off := 654) (tgt := 694) dL_law_40 (by omega) (by omega) (by rw [c8]; rfl) (by decide) hz⟩
  by_cases c9 : (Gs G k &&& 63).toInt = 9
  · obtain ⟨z, hz⟩ := law_9 hk hL (OPSk.2.2.2.2.2.2.2.2.2.1) hI hc
    exact ⟨z, J_tabIn (off := 710) (tgt := 750) dL_law_40 (by omega) (by omega) (by rw [c9]; rfl) (by decide) hz⟩
  by_cases c10 : (Gs G k &&& 63).toInt = 10
  · obtain ⟨z, hz⟩ := law_10 hk hL (OPSk.2.2.2.2.2.2.2.2.2.2.1) hI hc
    exact ⟨z, J_tabIn (off := 766) (tgt := 806) dL_law_40 (by omega) (by omega) (by rw [c10]; rfl) (by decide) hz⟩
  by_cases c11 : (Gs G k &&& 63).toInt = 11
  · obtain ⟨z, hz⟩ := law_11 hk hL (OPSk.2.2.2.2.2.2.2.2.2.2.2.1) hI hc
    exact ⟨z, J_tabIn (off := 834) (tgt := 874) dL_law_40 (by omega) (by omega) (by rw [c11]; rfl) (by decide) hz⟩
  by_cases c12 : (Gs G k &&& 63).toInt = 12
  · obtain ⟨z, hz⟩ := law_12 hk hL (OPSk.2.2.2.2.2.2.2.2.2.2.2.2.1) hI hc
    exact ⟨z, J_tabIn (off := 902) (tgt := 942) dL_law_40 (by omega) (by omega) (by rw [c12]; rfl) (by decide) hz⟩
  by_cases c13 : (Gs G k &&& 63).toInt = 13
  · obtain ⟨z, hz⟩ := law_13 hk hL (OPSk.2.2.2.2.2.2.2.2.2.2.2.2.2.1) hI hc
    exact ⟨z, J_tabIn (off := 970) (tgt := 1010) dL_law_40 (by omega) (by omega) (by rw [c13]; rfl) (by decide) hz⟩
  by_cases c14 : (Gs G k &&& 63).toInt = 14
  · obtain ⟨z, hz⟩ := law_14 hk hL (OPSk.2.2.2.2.2.2.2.2.2.2.2.2.2.2.1) hI hc
    exact ⟨z, J_tabIn (off := 1026) (tgt := 1066) dL_law_40 (by omega) (by omega) (by rw [c14]; rfl) (by decide) hz⟩
  by_cases c15 : (Gs G k &&& 63).toInt = 15
  · obtain ⟨z, hz⟩ := law_15 hk hL (OPSk.2.2.2.2.2.2.2.2.2.2.2.2.2.2.2.1) hI hc
    exact ⟨z, J_tabIn (off := 1082) (tgt := 1122) dL_law_40 (by omega) (by omega) (by rw [c15]; rfl) (by decide) hz⟩
  by_cases c16 : (Gs G k &&& 63).toInt = 16
  · obtain ⟨z, hz⟩ := law_16 hk hL (OPSk.2.2.2.2.2.2.2.2.2.2.2.2.2.2.2.2.1) hI hc
    exact ⟨z, J_tabIn (off := 1162) (tgt := 1202) dL_law_40 (by omega) (by omega) (by rw [c16]; rfl) (by decide) hz⟩
  by_cases c17 : (Gs G k &&& 63).toInt = 17
  · obtain ⟨z, hz⟩ := law_17 hk hL (OPSk.2.2.2.2.2.2.2.2.2.2.2.2.2.2.2.2.2.1) hI hc
    exact ⟨z, J_tabIn (off := 1218) (tgt := 1258) dL_law_40 (by omega) (by omega) (by rw [c17]; rfl) (by decide) hz⟩
  by_cases c18 : (Gs G k &&& 63).toInt = 18
  · obtain ⟨z, hz⟩ := law_18 hk hL (OPSk.2.2.2.2.2.2.2.2.2.2.2.2.2.2.2.2.2.2.1) hI hc
    exact ⟨z, J_tabIn (off := 1262) (tgt := 1302) dL_law_40 (by omega) (by omega) (by rw [c18]; rfl) (by decide) hz⟩
  by_cases c19 : (Gs G k &&& 63).toInt = 19
  · obtain ⟨z, hz⟩ := law_19 hk hL (OPSk.2.2.2.2.2.2.2.2.2.2.2.2.2.2.2.2.2.2.2.1) hI hc
    exact ⟨z, J_tabIn (off := 1306) (tgt := 1346) dL_law_40 (by omega) (by omega) (by rw [c19]; rfl) (by decide) hz⟩
  by_cases c20 : (Gs G k &&& 63).toInt = 20
  · obtain ⟨z, hz⟩ := law_20 hk hL (OPSk.2.2.2.2.2.2.2.2.2.2.2.2.2.2.2.2.2.2.2.2.1) hI hc
    exact ⟨z, J_tabIn (off := 1350) (tgt := 1390) dL_law_40 (by omega) (by omega) (by rw [c20]; rfl) (by decide) hz⟩
  by_cases c21 : (Gs G k &&& 63).toInt = 21
  · obtain ⟨z, hz⟩ := law_21 hk hL (OPSk.2.2.2.2.2.2.2.2.2.2.2.2.2.2.2.2.2.2.2.2.2.1) hI hc
    exact ⟨z, J_tabIn (off := 1406) (tgt := 1446) dL_law_40 (by omega) (by omega) (by rw [c21]; rfl) (by decide) hz⟩
  by_cases c22 : (Gs G k &&& 63).toInt = 22
  · obtain ⟨z, hz⟩ := law_22 hk hL (OPSk.2.2.2.2.2.2.2.2.2.2.2.2.2.2.2.2.2.2.2.2.2.2.1) hI hc
    exact ⟨z, J_tabIn (off := 1486) (tgt := 1526) dL_law_40 (by omega) (by omega) (by rw [c22]; rfl) (by decide) hz⟩
  by_cases c23 : (Gs G k &&& 63).toInt = 23
  · obtain ⟨z, hz⟩ := law_23 hk hL (OPSk.2.2.2.2.2.2.2.2.2.2.2.2.2.2.2.2.2.2.2.2.2.2.2.1) hI hc
    exact ⟨z, J_tabIn (off := 1542) (tgt := 1582) dL_law_40 (by omega) (by omega) (by rw [c23]; rfl) (by decide) hz⟩
  by_cases c24 : (Gs G k &&& 63).toInt = 24
  · obtain ⟨z, hz⟩ := law_24 hk hL (OPSk.2.2.2.2.2.2.2.2.2.2.2.2.2.2.2.2.2.2.2.2.2.2.2.2.1) hI hc
    exact ⟨z, J_tabIn (off := 1610) (tgt := 1650) dL_law_40 (by omega) (by omega) (by rw [c24]; rfl) (by decide) hz⟩
  by_cases c25 : (Gs G k &&& 63).toInt = 25
  · obtain ⟨z, hz⟩ := law_25 hk hL (OPSk.2.2.2.2.2.2.2.2.2.2.2.2.2.2.2.2.2.2.2.2.2.2.2.2.2.1) hI hc
    exact ⟨z, J_tabIn (off := 1690) (tgt := 1730) dL_law_40 (by omega) (by omega) (by rw [c25]; rfl) (by decide) hz⟩
  by_cases c26 : (Gs G k &&& 63).toInt = 26
  · obtain ⟨z, hz⟩ := law_26 hk hL (OPSk.2.2.2.2.2.2.2.2.2.2.2.2.2.2.2.2.2.2.2.2.2.2.2.2.2.2.1) hI hc
    exact ⟨z, J_tabIn (off := 1734) (tgt := 1774) dL_law_40 (by omega) (by omega) (by rw [c26]; rfl) (by decide) hz⟩
  by_cases c27 : (Gs G k &&& 63).toInt = 27
  · obtain ⟨z, hz⟩ := law_27 hk hL (OPSk.2.2.2.2.2.2.2.2.2.2.2.2.2.2.2.2.2.2.2.2.2.2.2.2.2.2.2.1) hI hc
    exact ⟨z, J_tabIn (off := 1778) (tgt := 1818) dL_law_40 (by omega) (by omega) (by rw [c27]; rfl) (by decide) hz⟩
  by_cases c28 : (Gs G k &&& 63).toInt = 28
  · obtain ⟨z, hz⟩ := law_28 hk hL (OPSk.2.2.2.2.2.2.2.2.2.2.2.2.2.2.2.2.2.2.2.2.2.2.2.2.2.2.2.2.1) hI hc
    exact ⟨z, J_tabIn (off := 1846) (tgt := 1886) dL_law_40 (by omega) (by omega) (by rw [c28]; rfl) (by decide) hz⟩
  by_cases c29 : (Gs G k &&& 63).toInt = 29
  · obtain ⟨z, hz⟩ := law_29 hk hL (OPSk.2.2.2.2.2.2.2.2.2.2.2.2.2.2.2.2.2.2.2.2.2.2.2.2.2.2.2.2.2.1) hI hc
    exact ⟨z, J_tabIn (off := 1902) (tgt := 1942) dL_law_40 (by omega) (by omega) (by rw [c29]; rfl) (by decide) hz⟩
  by_cases c30 : (Gs G k &&& 63).toInt = 30
  · obtain ⟨z, hz⟩ := law_30 hk hL (OPSk.2.2.2.2.2.2.2.2.2.2.2.2.2.2.2.2.2.2.2.2.2.2.2.2.2.2.2.2.2.2.1) hI hc
    exact ⟨z, J_tabIn (off := 1982) (tgt := 2022) dL_law_40 (by omega) (by omega) (by rw [c30]; rfl) (by decide) hz⟩
  by_cases c31 : (Gs G k &&& 63).toInt = 31
  · obtain ⟨z, hz⟩ := law_31 hk hL (OPSk.2.2.2.2.2.2.2.2.2.2.2.2.2.2.2.2.2.2.2.2.2.2.2.2.2.2.2.2.2.2.2.1) hI hc
    exact ⟨z, J_tabIn (off := 2050) (tgt := 2090) dL_law_40 (by omega) (by omega) (by rw [c31]; rfl) (by decide) hz⟩
  by_cases c32 : (Gs G k &&& 63).toInt = 32
  · obtain ⟨z, hz⟩ := law_32 hk hL (OPSk.2.2.2.2.2.2.2.2.2.2.2.2.2.2.2.2.2.2.2.2.2.2.2.2.2.2.2.2.2.2.2.2.1) hI hc
    exact ⟨z, J_tabIn (off := 2130) (tgt := 2170) dL_law_40 (by omega) (by omega) (by rw [c32]; rfl) (by decide) hz⟩
  by_cases c33 : (Gs G k &&& 63).toInt = 33
  · obtain ⟨z, hz⟩ := law_33 hk hL (OPSk.2.2.2.2.2.2.2.2.2.2.2.2.2.2.2.2.2.2.2.2.2.2.2.2.2.2.2.2.2.2.2.2.2.1) hI hc
    exact ⟨z, J_tabIn (off := 2186) (tgt := 2226) dL_law_40 (by omega) (by omega) (by rw [c33]; rfl) (by decide) hz⟩
  by_cases c34 : (Gs G k &&& 63).toInt = 34
  · obtain ⟨z, hz⟩ := law_34 hk hL (OPSk.2.2.2.2.2.2.2.2.2.2.2.2.2.2.2.2.2.2.2.2.2.2.2.2.2.2.2.2.2.2.2.2.2.2.1) hI hc
    exact ⟨z, J_tabIn (off := 2249) (tgt := 2289) dL_law_40 (by omega) (by omega) (by rw [c34]; rfl) (by decide) hz⟩
  by_cases c35 : (Gs G k &&& 63).toInt = 35
  · obtain ⟨z, hz⟩ := law_35 hk hL (OPSk.2.2.2.2.2.2.2.2.2.2.2.2.2.2.2.2.2.2.2.2.2.2.2.2.2.2.2.2.2.2.2.2.2.2.2.1) hI hc
    exact ⟨z, J_tabIn (off := 2293) (tgt := 2333) dL_law_40 (by omega) (by omega) (by rw [c35]; rfl) (by decide) hz⟩
  by_cases c36 : (Gs G k &&& 63).toInt = 36
  · obtain ⟨z, hz⟩ := law_36 hk hL (OPSk.2.2.2.2.2.2.2.2.2.2.2.2.2.2.2.2.2.2.2.2.2.2.2.2.2.2.2.2.2.2.2.2.2.2.2.2.1) hI hc
    exact ⟨z, J_tabIn (off := 2337) (tgt := 2377) dL_law_40 (by omega) (by omega) (by rw [c36]; rfl) (by decide) hz⟩
  by_cases c37 : (Gs G k &&& 63).toInt = 37
  · obtain ⟨z, hz⟩ := law_37 hk hL (OPSk.2.2.2.2.2.2.2.2.2.2.2.2.2.2.2.2.2.2.2.2.2.2.2.2.2.2.2.2.2.2.2.2.2.2.2.2.2.1) hI hc
    exact ⟨z, J_tabIn (off := 2393) (tgt := 2433) dL_law_40 (by omega) (by omega) (by rw [c37]; rfl) (by decide) hz⟩
  by_cases c38 : (Gs G k &&& 63).toInt = 38
  · obtain ⟨z, hz⟩ := law_38 hk hL (OPSk.2.2.2.2.2.2.2.2.2.2.2.2.2.2.2.2.2.2.2.2.2.2.2.2.2.2.2.2.2.2.2.2.2.2.2.2.2.2.1) hI hc
    exact ⟨z, J_tabIn (off := 2449) (tgt := 2489) dL_law_40 (by omega) (by omega) (by rw [c38]; rfl) (by decide) hz⟩
  by_cases c39 : (Gs G k &&& 63).toInt = 39
  · obtain ⟨z, hz⟩ := law_39 hk hL (OPSk.2.2.2.2.2.2.2.2.2.2.2.2.2.2.2.2.2.2.2.2.2.2.2.2.2.2.2.2.2.2.2.2.2.2.2.2.2.2.2.1) hI hc
    exact ⟨z, J_tabIn (off := 2505) (tgt := 2545) dL_law_40 (by omega) (by omega) (by rw [c39]; rfl) (by decide) hz⟩
  by_cases c40 : (Gs G k &&& 63).toInt = 40
  · obtain ⟨z, hz⟩ := law_40 hk hL (OPSk.2.2.2.2.2.2.2.2.2.2.2.2.2.2.2.2.2.2.2.2.2.2.2.2.2.2.2.2.2.2.2.2.2.2.2.2.2.2.2.2.1) hI hc
    exact ⟨z, J_tabIn (off := 2549) (tgt := 2589) dL_law_40 (by omega) (by omega) (by rw [c40]; rfl) (by decide) hz⟩
  by_cases c41 : (Gs G k &&& 63).toInt = 41
  · obtain ⟨z, hz⟩ := law_41 hk hL (OPSk.2.2.2.2.2.2.2.2.2.2.2.2.2.2.2.2.2.2.2.2.2.2.2.2.2.2.2.2.2.2.2.2.2.2.2.2.2.2.2.2.2.1) hI hc
    exact ⟨z, J_tabIn (off := 2617) (tgt := 2657) dL_law_40 (by omega) (by omega) (by rw [c41]; rfl) (by decide) hz⟩
  by_cases c42 : (Gs G k &&& 63).toInt = 42
  · obtain ⟨z, hz⟩ := law_42 hk hL (OPSk.2.2.2.2.2.2.2.2.2.2.2.2.2.2.2.2.2.2.2.2.2.2.2.2.2.2.2.2.2.2.2.2.2.2.2.2.2.2.2.2.2.2.1) hI hc
    exact ⟨z, J_tabIn (off := 2673) (tgt := 2713) dL_law_40 (by omega) (by omega) (by rw [c42]; rfl) (by decide) hz⟩
  by_cases c43 : (Gs G k &&& 63).toInt = 43
  · obtain ⟨z, hz⟩ := law_43 hk hL (OPSk.2.2.2.2.2.2.2.2.2.2.2.2.2.2.2.2.2.2.2.2.2.2.2.2.2.2.2.2.2.2.2.2.2.2.2.2.2.2.2.2.2.2.2.1) hI hc
    exact ⟨z, J_tabIn (off := 2729) (tgt := 2769) dL_law_40 (by omega) (by omega) (by rw [c43]; rfl) (by decide) hz⟩
  by_cases c44 : (Gs G k &&& 63).toInt = 44
  · obtain ⟨z, hz⟩ := law_44 hk hL (OPSk.2.2.2.2.2.2.2.2.2.2.2.2.2.2.2.2.2.2.2.2.2.2.2.2.2.2.2.2.2.2.2.2.2.2.2.2.2.2.2.2.2.2.2.2.1) hI hc
    exact ⟨z, J_tabIn (off := 2773) (tgt := 2813) dL_law_40 (by omega) (by omega) (by rw [c44]; rfl) (by decide) hz⟩
  by_cases c45 : (Gs G k &&& 63).toInt = 45
  · obtain ⟨z, hz⟩ := law_45 hk hL (OPSk.2.2.2.2.2.2.2.2.2.2.2.2.2.2.2.2.2.2.2.2.2.2.2.2.2.2.2.2.2.2.2.2.2.2.2.2.2.2.2.2.2.2.2.2.2.1) hI hc
    exact ⟨z, J_tabIn (off := 2829) (tgt := 2869) dL_law_40 (by omega) (by omega) (by rw [c45]; rfl) (by decide) hz⟩
  by_cases c46 : (Gs G k &&& 63).toInt = 46
  · obtain ⟨z, hz⟩ := law_46 hk hL (OPSk.2.2.2.2.2.2.2.2.2.2.2.2.2.2.2.2.2.2.2.2.2.2.2.2.2.2.2.2.2.2.2.2.2.2.2.2.2.2.2.2.2.2.2.2.2.2.1) hI hc
    exact ⟨z, J_tabIn (off := 2873) (tgt := 2913) dL_law_40 (by omega) (by omega) (by rw [c46]; rfl) (by decide) hz⟩
  by_cases c47 : (Gs G k &&& 63).toInt = 47
  · obtain ⟨z, hz⟩ := law_47 hk hL (OPSk.2.2.2.2.2.2.2.2.2.2.2.2.2.2.2.2.2.2.2.2.2.2.2.2.2.2.2.2.2.2.2.2.2.2.2.2.2.2.2.2.2.2.2.2.2.2.2) hI hc
    exact ⟨z, J_tabIn (off := 2917) (tgt := 2957) dL_law_40 (by omega) (by omega) (by rw [c47]; rfl) (by decide) hz⟩
  · have hz63 := and63 (Gs G k)
    obtain ⟨z, hz⟩ := hc mm lm hI
    refine ⟨z, J_more (Nat.le_add_right a 1) (Nat.le_add_right b 6) (J_tabOut (tgt := 3001) dL_law_40 (by omega) (by decide) ?_)⟩
    refine J_iinc [(4, .int (nI k + 6)), (3, .ref 85), (2, .ref 63), (1, .ref 0), (0, .ref 1000)] (i := 4) (v := nI k + 6) rfl rfl (by decide) rfl dL_law_3001 ?_
    refine J_goto (tgt := 23) dL_law_3004 (by decide) ?_
    exact hz
end Law
