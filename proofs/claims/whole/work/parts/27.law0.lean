/-! ===== the law's own body: each case out of what is shown of its calls (wip/gen/mk27.py) ===== -/
section CallSH
variable {G : Gx} {M Mc : Md} {pc : Nat} {L : List (Nat × Value)} {st stk : List Value} {w z z1 : Wd} {g g1 h : Bool} {o : Ou} {a b a1 b1 a2 b2 : Nat}
/-- a static call of a method with handlers of its own, that returns -/
theorem J_callSH {as : List Value} {idx : Nat} {v : Option Value} {x : Nat × Nat × Nat × Nat} {t : List (Nat × Nat × Nat × Nat)} (ht : mT Mc = x :: t) (hc : mW Mc ∈ gt) (hini : Cond.initialized (mY Mc).cls ∈ gt) (hy : (mY Mc).cls ≠ "java/lang/invoke/MethodHandle" ∧ (mY Mc).cls ≠ "java/lang/invoke/VarHandle") (hi : Cond.static (mY Mc) ∈ gt) (hl : Cond.methodLink (mY M).cls idx (mY Mc) ∈ gt) (hr : Rm M Mc) (hn : Cnt Mc as.length)
    (hstk : stk = as.reverse ++ st) (hsum : (st.map fun v => v.category).sum ≤ 8) (hd : decode (mC M) pc = .ok (.invokestatic idx, 3)) (ha : a = a1 + a2) (hb : b = b1 + b2)
    (hct : Ct G Mc as w g (.inl v) z1 g1 a1 b1) (kk : J G M (pc + 3) L (v.toList ++ st) z1 g1 o z h a2 b2) : J G M pc L stk w g o z h a b := by
  subst hstk; subst ha; subst hb
  intro p e R s m args below meth c C H locs ls cells slots hR hlv ha hb
  have hts := C.2.2.2.2.2.2.2.1
  have hF := C.2.2.2.2.2.2.2.2.2.2.2.2.1
  have hL := C.2.2.2.2.2.2.2.2.2.2.2.2.2.1
  have e1 : mW Mc = .codeWith (mY Mc) (mC Mc) (mN Mc) (mR Mc) (mT Mc) := by simp [mW, ht]
  have cw : vx_CSW R s args (mY M).cls idx (mY Mc) (mC Mc) (mN Mc) (mR Mc) (mT Mc) (mW Mc :: gt) { frames := mF Mc, cells := a1, slots := b1, locals := mL Mc } a1 b1 (as.map (cv G)).length :=
    ⟨⟨rfl, rfl, Nat.le_trans hr.1 hF, Nat.le_trans hr.2 hL, pay_in hts (ws_ok hc), by rw [← e1]; exact List.mem_cons_self⟩, by rw [← e1]; exact hts _ hc, hts _ hini, hy, fun sig hs => by
      have q := hn
      unfold Cnt at q
      rw [hs] at q
      rw [List.length_map]
      exact (Option.some.inj q).symm, hts _ hl, hts _ hi⟩
  have hrun : vx_Run p (Gl G) e R s m args below meth c H locs cells slots a1 b1 (F0 m pc ls ((as.reverse ++ st).map (cv G))) (st.map (cv G)) (Qr G (.inl v) z1 g1 (as.map (cv G)).toArray) (Xr G (.inl v) z1) (gA G) :=
    vx_runSX (As := as.map (cv G)) (fix_of C) hct cw ⟨Pq_blind, fun U hU hW => Pq_of (as := as) C hR hU hW⟩ rfl rfl hlv.1 (by simp [List.map_append, List.map_reverse]) (by show 2 * 0 + _ ≤ 8; rw [sum_c]; omega) hd ⟨by omega, by omega⟩
  refine core_ret hrun hR.2.1 fun H1 locs1 hR1 => ?_
  have q := kk p e R s m args below meth c C H1 locs1 ls (cells + a1) (slots + b1) hR1 hlv (by omega) (by omega)
  rw [stk_c, ← Nat.add_assoc, ← Nat.add_assoc]
  exact q
end CallSH
/-- what is to be shown of a call of both sides, in a world of a kind -/
def OpW (G : Gx) (I : (Nat → Nat → Int32) → Prop) (Mw Mm : Md) (as : List Value) (cmp : Int64 → Int32 → Prop) : Prop := ∀ mm lm, I mm → ∃ (kk : Int32) (mm1 : Nat → Nat → Int32) (l1 : Nat → Int64) (bb : Int32) (mm2 : Nat → Nat → Int32),
  Ct G Mw (.ref 0 :: as ++ [.ref 85]) (SH, mm, lm) false (.inl (some (.int kk))) (SH, mm1, l1) false 1 6 ∧ Ct G Mm (.ref 63 :: as) (SH, mm1, l1) false (.inl (some (.int bb))) (SH, mm2, l1) false 0 0 ∧ mm2 63 4 = kk ∧ (kk = 0 → cmp (l1 0) bb) ∧ I mm2
def cmpI (x : Int64) (b : Int32) : Prop := x = b.toInt64
def cmpB (x : Int64) (b : Int32) : Prop := x = if b = 0 then 0 else 1
/-- the two calls that throw nothing -/
def OpD (G : Gx) (I : (Nat → Nat → Int32) → Prop) (Mx Mm : Md) : Prop := ∀ mm lm, I mm → ∃ (v : Int32) (mm1 mm2 : Nat → Nat → Int32),
  Ct G Mx [.ref 0] (SH, mm, lm) false (.inl (some (.int v))) (SH, mm1, lm) false 0 0 ∧ Ct G Mm [.ref 63] (SH, mm1, lm) false (.inl (some (.int v))) (SH, mm2, lm) false 0 0 ∧ I mm2
theorem gw_107 : Cond.initialized "BellTowerPlannerLaw" ∈ gt := gt_in (List.mem_of_getElem? (i := 107) (by decide +kernel)) (by decide +kernel)
theorem gw_463 : Cond.methodLink "BellTowerPlannerLaw" 176 ⟨"BellTowerPlanner", "load", "()I"⟩ ∈ gt := gt_in (List.mem_of_getElem? (i := 463) (by decide +kernel)) (by decide +kernel)
theorem gw_464 : Cond.instanceMethod ⟨"BellTowerPlanner", "load", "()I"⟩ ∈ gt := gt_in (List.mem_of_getElem? (i := 464) (by decide +kernel)) (by decide +kernel)
theorem gw_465 : Cond.selects "BellTowerPlanner" ⟨"BellTowerPlanner", "load", "()I"⟩ ⟨"BellTowerPlanner", "load", "()I"⟩ ∈ gt := gt_in (List.mem_of_getElem? (i := 465) (by decide +kernel)) (by decide +kernel)
theorem gw_466 : Cond.code ⟨"BellTowerPlanner", "load", "()I"⟩ prog_1_method_4_code 3 (some .int) ∈ gt := gt_in (List.mem_of_getElem? (i := 466) (by decide +kernel)) (by decide +kernel)
theorem gw_616 : Cond.methodLink "BellTowerPlannerLaw" 180 ⟨"BellTowerPlanner", "errorPosition", "()I"⟩ ∈ gt := gt_in (List.mem_of_getElem? (i := 616) (by decide +kernel)) (by decide +kernel)
theorem gw_617 : Cond.instanceMethod ⟨"BellTowerPlanner", "errorPosition", "()I"⟩ ∈ gt := gt_in (List.mem_of_getElem? (i := 617) (by decide +kernel)) (by decide +kernel)
theorem gw_618 : Cond.selects "BellTowerPlanner" ⟨"BellTowerPlanner", "errorPosition", "()I"⟩ ⟨"BellTowerPlanner", "errorPosition", "()I"⟩ ∈ gt := gt_in (List.mem_of_getElem? (i := 618) (by decide +kernel)) (by decide +kernel)
theorem gw_619 : Cond.code ⟨"BellTowerPlanner", "errorPosition", "()I"⟩ prog_1_method_5_code 1 (some .int) ∈ gt := gt_in (List.mem_of_getElem? (i := 619) (by decide +kernel)) (by decide +kernel)
theorem gw_620 : Cond.methodLink "BellTowerPlannerLaw" 163 ⟨"BellTowerPlannerLaw", "append", "(LBellTowerPlanner;IIIII[J)I"⟩ ∈ gt := gt_in (List.mem_of_getElem? (i := 620) (by decide +kernel)) (by decide +kernel)
theorem gw_621 : Cond.static ⟨"BellTowerPlannerLaw", "append", "(LBellTowerPlanner;IIIII[J)I"⟩ ∈ gt := gt_in (List.mem_of_getElem? (i := 621) (by decide +kernel)) (by decide +kernel)
theorem gw_622 : Cond.codeWith ⟨"BellTowerPlannerLaw", "append", "(LBellTowerPlanner;IIIII[J)I"⟩ method_3_code 8 (some .int) [(0, 16, 19, 13)] ∈ gt := gt_in (List.mem_of_getElem? (i := 622) (by decide +kernel)) (by decide +kernel)
theorem gw_699 : Cond.methodLink "BellTowerPlannerLaw" 172 ⟨"BellTowerPlannerLaw", "truncate", "(LBellTowerPlanner;I[J)I"⟩ ∈ gt := gt_in (List.mem_of_getElem? (i := 699) (by decide +kernel)) (by decide +kernel)
theorem gw_700 : Cond.static ⟨"BellTowerPlannerLaw", "truncate", "(LBellTowerPlanner;I[J)I"⟩ ∈ gt := gt_in (List.mem_of_getElem? (i := 700) (by decide +kernel)) (by decide +kernel)
theorem gw_701 : Cond.codeWith ⟨"BellTowerPlannerLaw", "truncate", "(LBellTowerPlanner;I[J)I"⟩ method_4_code 4 (some .int) [(0, 9, 12, 19)] ∈ gt := gt_in (List.mem_of_getElem? (i := 701) (by decide +kernel)) (by decide +kernel)
theorem gw_726 : Cond.methodLink "BellTowerPlannerLaw" 184 ⟨"BellTowerPlannerLaw", "hang", "(LBellTowerPlanner;III[J)I"⟩ ∈ gt := gt_in (List.mem_of_getElem? (i := 726) (by decide +kernel)) (by decide +kernel)
theorem gw_727 : Cond.static ⟨"BellTowerPlannerLaw", "hang", "(LBellTowerPlanner;III[J)I"⟩ ∈ gt := gt_in (List.mem_of_getElem? (i := 727) (by decide +kernel)) (by decide +kernel)
theorem gw_728 : Cond.codeWith ⟨"BellTowerPlannerLaw", "hang", "(LBellTowerPlanner;III[J)I"⟩ method_5_code 6 (some .int) [(0, 12, 15, 13), (0, 12, 19, 19)] ∈ gt := gt_in (List.mem_of_getElem? (i := 728) (by decide +kernel)) (by decide +kernel)
theorem gw_793 : Cond.methodLink "BellTowerPlannerLaw" 188 ⟨"BellTowerPlannerLaw", "takeDown", "(LBellTowerPlanner;I[J)I"⟩ ∈ gt := gt_in (List.mem_of_getElem? (i := 793) (by decide +kernel)) (by decide +kernel)
theorem gw_794 : Cond.static ⟨"BellTowerPlannerLaw", "takeDown", "(LBellTowerPlanner;I[J)I"⟩ ∈ gt := gt_in (List.mem_of_getElem? (i := 794) (by decide +kernel)) (by decide +kernel)
theorem gw_795 : Cond.codeWith ⟨"BellTowerPlannerLaw", "takeDown", "(LBellTowerPlanner;I[J)I"⟩ method_6_code 4 (some .int) [(0, 9, 12, 13), (0, 9, 15, 19)] ∈ gt := gt_in (List.mem_of_getElem? (i := 795) (by decide +kernel)) (by decide +kernel)
theorem gw_802 : Cond.methodLink "BellTowerPlannerLaw" 191 ⟨"BellTowerPlannerLaw", "shift", "(LBellTowerPlanner;II[J)I"⟩ ∈ gt := gt_in (List.mem_of_getElem? (i := 802) (by decide +kernel)) (by decide +kernel)
theorem gw_803 : Cond.static ⟨"BellTowerPlannerLaw", "shift", "(LBellTowerPlanner;II[J)I"⟩ ∈ gt := gt_in (List.mem_of_getElem? (i := 803) (by decide +kernel)) (by decide +kernel)
theorem gw_804 : Cond.codeWith ⟨"BellTowerPlannerLaw", "shift", "(LBellTowerPlanner;II[J)I"⟩ method_7_code 5 (some .int) [(0, 10, 13, 13), (0, 10, 17, 19)] ∈ gt := gt_in (List.mem_of_getElem? (i := 804) (by decide +kernel)) (by decide +kernel)
theorem gw_809 : Cond.methodLink "BellTowerPlannerLaw" 195 ⟨"BellTowerPlannerLaw", "beamOf", "(LBellTowerPlanner;I[J)I"⟩ ∈ gt := gt_in (List.mem_of_getElem? (i := 809) (by decide +kernel)) (by decide +kernel)
theorem gw_810 : Cond.static ⟨"BellTowerPlannerLaw", "beamOf", "(LBellTowerPlanner;I[J)I"⟩ ∈ gt := gt_in (List.mem_of_getElem? (i := 810) (by decide +kernel)) (by decide +kernel)
theorem gw_811 : Cond.codeWith ⟨"BellTowerPlannerLaw", "beamOf", "(LBellTowerPlanner;I[J)I"⟩ method_8_code 4 (some .int) [(0, 9, 12, 13), (0, 9, 15, 19)] ∈ gt := gt_in (List.mem_of_getElem? (i := 811) (by decide +kernel)) (by decide +kernel)
theorem gw_816 : Cond.methodLink "BellTowerPlannerLaw" 198 ⟨"BellTowerPlannerLaw", "positionOf", "(LBellTowerPlanner;I[J)I"⟩ ∈ gt := gt_in (List.mem_of_getElem? (i := 816) (by decide +kernel)) (by decide +kernel)
theorem gw_817 : Cond.static ⟨"BellTowerPlannerLaw", "positionOf", "(LBellTowerPlanner;I[J)I"⟩ ∈ gt := gt_in (List.mem_of_getElem? (i := 817) (by decide +kernel)) (by decide +kernel)
theorem gw_818 : Cond.codeWith ⟨"BellTowerPlannerLaw", "positionOf", "(LBellTowerPlanner;I[J)I"⟩ method_9_code 4 (some .int) [(0, 9, 12, 13), (0, 9, 15, 19), (0, 9, 18, 38)] ∈ gt := gt_in (List.mem_of_getElem? (i := 818) (by decide +kernel)) (by decide +kernel)
theorem gw_844 : Cond.methodLink "BellTowerPlannerLaw" 201 ⟨"BellTowerPlannerLaw", "torque", "(LBellTowerPlanner;I[J)I"⟩ ∈ gt := gt_in (List.mem_of_getElem? (i := 844) (by decide +kernel)) (by decide +kernel)
theorem gw_845 : Cond.static ⟨"BellTowerPlannerLaw", "torque", "(LBellTowerPlanner;I[J)I"⟩ ∈ gt := gt_in (List.mem_of_getElem? (i := 845) (by decide +kernel)) (by decide +kernel)
theorem gw_846 : Cond.codeWith ⟨"BellTowerPlannerLaw", "torque", "(LBellTowerPlanner;I[J)I"⟩ method_10_code 4 (some .int) [(0, 9, 12, 13), (0, 9, 15, 19)] ∈ gt := gt_in (List.mem_of_getElem? (i := 846) (by decide +kernel)) (by decide +kernel)
theorem gw_851 : Cond.methodLink "BellTowerPlannerLaw" 204 ⟨"BellTowerPlannerLaw", "bellAt", "(LBellTowerPlanner;II[J)I"⟩ ∈ gt := gt_in (List.mem_of_getElem? (i := 851) (by decide +kernel)) (by decide +kernel)
theorem gw_852 : Cond.static ⟨"BellTowerPlannerLaw", "bellAt", "(LBellTowerPlanner;II[J)I"⟩ ∈ gt := gt_in (List.mem_of_getElem? (i := 852) (by decide +kernel)) (by decide +kernel)
theorem gw_853 : Cond.codeWith ⟨"BellTowerPlannerLaw", "bellAt", "(LBellTowerPlanner;II[J)I"⟩ method_11_code 5 (some .int) [(0, 10, 13, 13), (0, 10, 17, 19)] ∈ gt := gt_in (List.mem_of_getElem? (i := 853) (by decide +kernel)) (by decide +kernel)
theorem gw_872 : Cond.methodLink "BellTowerPlannerLaw" 207 ⟨"BellTowerPlannerLaw", "freePositions", "(LBellTowerPlanner;II[J)I"⟩ ∈ gt := gt_in (List.mem_of_getElem? (i := 872) (by decide +kernel)) (by decide +kernel)
theorem gw_873 : Cond.static ⟨"BellTowerPlannerLaw", "freePositions", "(LBellTowerPlanner;II[J)I"⟩ ∈ gt := gt_in (List.mem_of_getElem? (i := 873) (by decide +kernel)) (by decide +kernel)
theorem gw_874 : Cond.codeWith ⟨"BellTowerPlannerLaw", "freePositions", "(LBellTowerPlanner;II[J)I"⟩ method_12_code 5 (some .int) [(0, 10, 13, 13), (0, 10, 17, 19)] ∈ gt := gt_in (List.mem_of_getElem? (i := 874) (by decide +kernel)) (by decide +kernel)
theorem gw_884 : Cond.methodLink "BellTowerPlannerLaw" 210 ⟨"BellTowerPlannerLaw", "bestPosition", "(LBellTowerPlanner;II[J)I"⟩ ∈ gt := gt_in (List.mem_of_getElem? (i := 884) (by decide +kernel)) (by decide +kernel)
theorem gw_885 : Cond.static ⟨"BellTowerPlannerLaw", "bestPosition", "(LBellTowerPlanner;II[J)I"⟩ ∈ gt := gt_in (List.mem_of_getElem? (i := 885) (by decide +kernel)) (by decide +kernel)
theorem gw_886 : Cond.codeWith ⟨"BellTowerPlannerLaw", "bestPosition", "(LBellTowerPlanner;II[J)I"⟩ method_13_code 5 (some .int) [(0, 10, 13, 13), (0, 10, 17, 19)] ∈ gt := gt_in (List.mem_of_getElem? (i := 886) (by decide +kernel)) (by decide +kernel)
theorem gw_897 : Cond.methodLink "BellTowerPlannerLaw" 213 ⟨"BellTowerPlannerLaw", "mirroredTorque", "(LBellTowerPlanner;I[J)I"⟩ ∈ gt := gt_in (List.mem_of_getElem? (i := 897) (by decide +kernel)) (by decide +kernel)
theorem gw_898 : Cond.static ⟨"BellTowerPlannerLaw", "mirroredTorque", "(LBellTowerPlanner;I[J)I"⟩ ∈ gt := gt_in (List.mem_of_getElem? (i := 898) (by decide +kernel)) (by decide +kernel)
theorem gw_899 : Cond.codeWith ⟨"BellTowerPlannerLaw", "mirroredTorque", "(LBellTowerPlanner;I[J)I"⟩ method_14_code 4 (some .int) [(0, 9, 12, 13), (0, 9, 15, 19)] ∈ gt := gt_in (List.mem_of_getElem? (i := 899) (by decide +kernel)) (by decide +kernel)
theorem gw_932 : Cond.methodLink "BellTowerPlannerLaw" 216 ⟨"BellTowerPlannerLaw", "mirroredBells", "(LBellTowerPlanner;I[J)I"⟩ ∈ gt := gt_in (List.mem_of_getElem? (i := 932) (by decide +kernel)) (by decide +kernel)
theorem gw_933 : Cond.static ⟨"BellTowerPlannerLaw", "mirroredBells", "(LBellTowerPlanner;I[J)I"⟩ ∈ gt := gt_in (List.mem_of_getElem? (i := 933) (by decide +kernel)) (by decide +kernel)
theorem gw_934 : Cond.codeWith ⟨"BellTowerPlannerLaw", "mirroredBells", "(LBellTowerPlanner;I[J)I"⟩ method_15_code 4 (some .int) [(0, 9, 12, 13), (0, 9, 15, 19)] ∈ gt := gt_in (List.mem_of_getElem? (i := 934) (by decide +kernel)) (by decide +kernel)
theorem gw_939 : Cond.methodLink "BellTowerPlannerLaw" 219 ⟨"BellTowerPlannerLaw", "setPlan", "(LBellTowerPlanner;III[J)I"⟩ ∈ gt := gt_in (List.mem_of_getElem? (i := 939) (by decide +kernel)) (by decide +kernel)
theorem gw_940 : Cond.static ⟨"BellTowerPlannerLaw", "setPlan", "(LBellTowerPlanner;III[J)I"⟩ ∈ gt := gt_in (List.mem_of_getElem? (i := 940) (by decide +kernel)) (by decide +kernel)
theorem gw_941 : Cond.codeWith ⟨"BellTowerPlannerLaw", "setPlan", "(LBellTowerPlanner;III[J)I"⟩ method_16_code 6 (some .int) [(0, 12, 15, 13), (0, 12, 19, 19)] ∈ gt := gt_in (List.mem_of_getElem? (i := 941) (by decide +kernel)) (by decide +kernel)
theorem gw_954 : Cond.methodLink "BellTowerPlannerLaw" 222 ⟨"BellTowerPlannerLaw", "clearPlan", "(LBellTowerPlanner;I[J)I"⟩ ∈ gt := gt_in (List.mem_of_getElem? (i := 954) (by decide +kernel)) (by decide +kernel)
theorem gw_955 : Cond.static ⟨"BellTowerPlannerLaw", "clearPlan", "(LBellTowerPlanner;I[J)I"⟩ ∈ gt := gt_in (List.mem_of_getElem? (i := 955) (by decide +kernel)) (by decide +kernel)
theorem gw_956 : Cond.codeWith ⟨"BellTowerPlannerLaw", "clearPlan", "(LBellTowerPlanner;I[J)I"⟩ method_17_code 4 (some .int) [(0, 9, 12, 13), (0, 9, 15, 19)] ∈ gt := gt_in (List.mem_of_getElem? (i := 956) (by decide +kernel)) (by decide +kernel)
theorem gw_962 : Cond.methodLink "BellTowerPlannerLaw" 225 ⟨"BellTowerPlannerLaw", "planConflicts", "(LBellTowerPlanner;[J)I"⟩ ∈ gt := gt_in (List.mem_of_getElem? (i := 962) (by decide +kernel)) (by decide +kernel)
theorem gw_963 : Cond.static ⟨"BellTowerPlannerLaw", "planConflicts", "(LBellTowerPlanner;[J)I"⟩ ∈ gt := gt_in (List.mem_of_getElem? (i := 963) (by decide +kernel)) (by decide +kernel)
theorem gw_964 : Cond.codeWith ⟨"BellTowerPlannerLaw", "planConflicts", "(LBellTowerPlanner;[J)I"⟩ method_18_code 3 (some .int) [(0, 8, 11, 13)] ∈ gt := gt_in (List.mem_of_getElem? (i := 964) (by decide +kernel)) (by decide +kernel)
theorem gw_1000 : Cond.methodLink "BellTowerPlannerLaw" 229 ⟨"BellTowerPlannerLaw", "planUnbalanced", "(LBellTowerPlanner;[J)I"⟩ ∈ gt := gt_in (List.mem_of_getElem? (i := 1000) (by decide +kernel)) (by decide +kernel)
theorem gw_1001 : Cond.static ⟨"BellTowerPlannerLaw", "planUnbalanced", "(LBellTowerPlanner;[J)I"⟩ ∈ gt := gt_in (List.mem_of_getElem? (i := 1001) (by decide +kernel)) (by decide +kernel)
theorem gw_1002 : Cond.codeWith ⟨"BellTowerPlannerLaw", "planUnbalanced", "(LBellTowerPlanner;[J)I"⟩ method_19_code 3 (some .int) [(0, 8, 11, 13)] ∈ gt := gt_in (List.mem_of_getElem? (i := 1002) (by decide +kernel)) (by decide +kernel)
theorem gw_1016 : Cond.methodLink "BellTowerPlannerLaw" 232 ⟨"BellTowerPlannerLaw", "stepsToPlan", "(LBellTowerPlanner;[J)I"⟩ ∈ gt := gt_in (List.mem_of_getElem? (i := 1016) (by decide +kernel)) (by decide +kernel)
theorem gw_1017 : Cond.static ⟨"BellTowerPlannerLaw", "stepsToPlan", "(LBellTowerPlanner;[J)I"⟩ ∈ gt := gt_in (List.mem_of_getElem? (i := 1017) (by decide +kernel)) (by decide +kernel)
theorem gw_1018 : Cond.codeWith ⟨"BellTowerPlannerLaw", "stepsToPlan", "(LBellTowerPlanner;[J)I"⟩ method_20_code 3 (some .int) [(0, 8, 11, 13)] ∈ gt := gt_in (List.mem_of_getElem? (i := 1018) (by decide +kernel)) (by decide +kernel)
theorem gw_1051 : Cond.methodLink "BellTowerPlannerLaw" 235 ⟨"BellTowerPlannerLaw", "planStep", "(LBellTowerPlanner;I[J)I"⟩ ∈ gt := gt_in (List.mem_of_getElem? (i := 1051) (by decide +kernel)) (by decide +kernel)
theorem gw_1052 : Cond.static ⟨"BellTowerPlannerLaw", "planStep", "(LBellTowerPlanner;I[J)I"⟩ ∈ gt := gt_in (List.mem_of_getElem? (i := 1052) (by decide +kernel)) (by decide +kernel)
theorem gw_1053 : Cond.codeWith ⟨"BellTowerPlannerLaw", "planStep", "(LBellTowerPlanner;I[J)I"⟩ method_21_code 4 (some .int) [(0, 9, 12, 13), (0, 9, 15, 19)] ∈ gt := gt_in (List.mem_of_getElem? (i := 1053) (by decide +kernel)) (by decide +kernel)
theorem gw_1063 : Cond.methodLink "BellTowerPlannerLaw" 238 ⟨"BellTowerPlannerLaw", "startSwing", "(LBellTowerPlanner;III[J)I"⟩ ∈ gt := gt_in (List.mem_of_getElem? (i := 1063) (by decide +kernel)) (by decide +kernel)
theorem gw_1064 : Cond.static ⟨"BellTowerPlannerLaw", "startSwing", "(LBellTowerPlanner;III[J)I"⟩ ∈ gt := gt_in (List.mem_of_getElem? (i := 1064) (by decide +kernel)) (by decide +kernel)
theorem gw_1065 : Cond.codeWith ⟨"BellTowerPlannerLaw", "startSwing", "(LBellTowerPlanner;III[J)I"⟩ method_22_code 6 (some .int) [(0, 12, 15, 13), (0, 12, 19, 19)] ∈ gt := gt_in (List.mem_of_getElem? (i := 1065) (by decide +kernel)) (by decide +kernel)
theorem gw_1078 : Cond.methodLink "BellTowerPlannerLaw" 241 ⟨"BellTowerPlannerLaw", "stopSwing", "(LBellTowerPlanner;I[J)I"⟩ ∈ gt := gt_in (List.mem_of_getElem? (i := 1078) (by decide +kernel)) (by decide +kernel)
theorem gw_1079 : Cond.static ⟨"BellTowerPlannerLaw", "stopSwing", "(LBellTowerPlanner;I[J)I"⟩ ∈ gt := gt_in (List.mem_of_getElem? (i := 1079) (by decide +kernel)) (by decide +kernel)
theorem gw_1080 : Cond.codeWith ⟨"BellTowerPlannerLaw", "stopSwing", "(LBellTowerPlanner;I[J)I"⟩ method_23_code 4 (some .int) [(0, 9, 12, 13), (0, 9, 15, 19)] ∈ gt := gt_in (List.mem_of_getElem? (i := 1080) (by decide +kernel)) (by decide +kernel)
theorem gw_1086 : Cond.methodLink "BellTowerPlannerLaw" 244 ⟨"BellTowerPlannerLaw", "offset", "(LBellTowerPlanner;II[J)I"⟩ ∈ gt := gt_in (List.mem_of_getElem? (i := 1086) (by decide +kernel)) (by decide +kernel)
theorem gw_1087 : Cond.static ⟨"BellTowerPlannerLaw", "offset", "(LBellTowerPlanner;II[J)I"⟩ ∈ gt := gt_in (List.mem_of_getElem? (i := 1087) (by decide +kernel)) (by decide +kernel)
theorem gw_1088 : Cond.codeWith ⟨"BellTowerPlannerLaw", "offset", "(LBellTowerPlanner;II[J)I"⟩ method_24_code 5 (some .int) [(0, 10, 13, 13), (0, 10, 17, 19), (0, 10, 21, 38)] ∈ gt := gt_in (List.mem_of_getElem? (i := 1088) (by decide +kernel)) (by decide +kernel)
theorem gw_1100 : Cond.methodLink "BellTowerPlannerLaw" 247 ⟨"BellTowerPlannerLaw", "gap", "(LBellTowerPlanner;III[J)I"⟩ ∈ gt := gt_in (List.mem_of_getElem? (i := 1100) (by decide +kernel)) (by decide +kernel)
theorem gw_1101 : Cond.static ⟨"BellTowerPlannerLaw", "gap", "(LBellTowerPlanner;III[J)I"⟩ ∈ gt := gt_in (List.mem_of_getElem? (i := 1101) (by decide +kernel)) (by decide +kernel)
theorem gw_1102 : Cond.codeWith ⟨"BellTowerPlannerLaw", "gap", "(LBellTowerPlanner;III[J)I"⟩ method_25_code 6 (some .int) [(0, 12, 15, 13), (0, 12, 19, 19), (0, 12, 23, 38)] ∈ gt := gt_in (List.mem_of_getElem? (i := 1102) (by decide +kernel)) (by decide +kernel)
theorem gw_1123 : Cond.methodLink "BellTowerPlannerLaw" 250 ⟨"BellTowerPlannerLaw", "firstCollision", "(LBellTowerPlanner;[J)I"⟩ ∈ gt := gt_in (List.mem_of_getElem? (i := 1123) (by decide +kernel)) (by decide +kernel)
theorem gw_1124 : Cond.static ⟨"BellTowerPlannerLaw", "firstCollision", "(LBellTowerPlanner;[J)I"⟩ ∈ gt := gt_in (List.mem_of_getElem? (i := 1124) (by decide +kernel)) (by decide +kernel)
theorem gw_1125 : Cond.codeWith ⟨"BellTowerPlannerLaw", "firstCollision", "(LBellTowerPlanner;[J)I"⟩ method_26_code 3 (some .int) [(0, 8, 11, 13)] ∈ gt := gt_in (List.mem_of_getElem? (i := 1125) (by decide +kernel)) (by decide +kernel)
theorem gw_1139 : Cond.methodLink "BellTowerPlannerLaw" 253 ⟨"BellTowerPlannerLaw", "collidingBells", "(LBellTowerPlanner;[J)I"⟩ ∈ gt := gt_in (List.mem_of_getElem? (i := 1139) (by decide +kernel)) (by decide +kernel)
theorem gw_1140 : Cond.static ⟨"BellTowerPlannerLaw", "collidingBells", "(LBellTowerPlanner;[J)I"⟩ ∈ gt := gt_in (List.mem_of_getElem? (i := 1140) (by decide +kernel)) (by decide +kernel)
theorem gw_1141 : Cond.codeWith ⟨"BellTowerPlannerLaw", "collidingBells", "(LBellTowerPlanner;[J)I"⟩ method_27_code 3 (some .int) [(0, 8, 11, 13)] ∈ gt := gt_in (List.mem_of_getElem? (i := 1141) (by decide +kernel)) (by decide +kernel)
theorem gw_1147 : Cond.methodLink "BellTowerPlannerLaw" 256 ⟨"BellTowerPlannerLaw", "safeStart", "(LBellTowerPlanner;II[J)I"⟩ ∈ gt := gt_in (List.mem_of_getElem? (i := 1147) (by decide +kernel)) (by decide +kernel)
theorem gw_1148 : Cond.static ⟨"BellTowerPlannerLaw", "safeStart", "(LBellTowerPlanner;II[J)I"⟩ ∈ gt := gt_in (List.mem_of_getElem? (i := 1148) (by decide +kernel)) (by decide +kernel)
theorem gw_1149 : Cond.codeWith ⟨"BellTowerPlannerLaw", "safeStart", "(LBellTowerPlanner;II[J)I"⟩ method_28_code 5 (some .int) [(0, 10, 13, 13), (0, 10, 17, 19)] ∈ gt := gt_in (List.mem_of_getElem? (i := 1149) (by decide +kernel)) (by decide +kernel)
theorem gw_1172 : Cond.methodLink "BellTowerPlannerLaw" 259 ⟨"BellTowerPlannerLaw", "safeAmplitude", "(LBellTowerPlanner;I[J)I"⟩ ∈ gt := gt_in (List.mem_of_getElem? (i := 1172) (by decide +kernel)) (by decide +kernel)
theorem gw_1173 : Cond.static ⟨"BellTowerPlannerLaw", "safeAmplitude", "(LBellTowerPlanner;I[J)I"⟩ ∈ gt := gt_in (List.mem_of_getElem? (i := 1173) (by decide +kernel)) (by decide +kernel)
theorem gw_1174 : Cond.codeWith ⟨"BellTowerPlannerLaw", "safeAmplitude", "(LBellTowerPlanner;I[J)I"⟩ method_29_code 4 (some .int) [(0, 9, 12, 13), (0, 9, 15, 19)] ∈ gt := gt_in (List.mem_of_getElem? (i := 1174) (by decide +kernel)) (by decide +kernel)
theorem gw_1183 : Cond.methodLink "BellTowerPlannerLaw" 262 ⟨"BellTowerPlannerLaw", "strikes", "(LBellTowerPlanner;III[J)I"⟩ ∈ gt := gt_in (List.mem_of_getElem? (i := 1183) (by decide +kernel)) (by decide +kernel)
theorem gw_1184 : Cond.static ⟨"BellTowerPlannerLaw", "strikes", "(LBellTowerPlanner;III[J)I"⟩ ∈ gt := gt_in (List.mem_of_getElem? (i := 1184) (by decide +kernel)) (by decide +kernel)
theorem gw_1185 : Cond.codeWith ⟨"BellTowerPlannerLaw", "strikes", "(LBellTowerPlanner;III[J)I"⟩ method_30_code 6 (some .int) [(0, 12, 15, 13), (0, 12, 19, 19)] ∈ gt := gt_in (List.mem_of_getElem? (i := 1185) (by decide +kernel)) (by decide +kernel)
theorem gw_1198 : Cond.methodLink "BellTowerPlannerLaw" 265 ⟨"BellTowerPlannerLaw", "strikeTogether", "(LBellTowerPlanner;II[J)I"⟩ ∈ gt := gt_in (List.mem_of_getElem? (i := 1198) (by decide +kernel)) (by decide +kernel)
theorem gw_1199 : Cond.static ⟨"BellTowerPlannerLaw", "strikeTogether", "(LBellTowerPlanner;II[J)I"⟩ ∈ gt := gt_in (List.mem_of_getElem? (i := 1199) (by decide +kernel)) (by decide +kernel)
theorem gw_1200 : Cond.codeWith ⟨"BellTowerPlannerLaw", "strikeTogether", "(LBellTowerPlanner;II[J)I"⟩ method_31_code 5 (some .int) [(0, 10, 13, 13), (0, 10, 17, 19)] ∈ gt := gt_in (List.mem_of_getElem? (i := 1200) (by decide +kernel)) (by decide +kernel)
theorem gw_1209 : Cond.methodLink "BellTowerPlannerLaw" 268 ⟨"BellTowerPlannerLaw", "setChime", "(LBellTowerPlanner;III[J)I"⟩ ∈ gt := gt_in (List.mem_of_getElem? (i := 1209) (by decide +kernel)) (by decide +kernel)
theorem gw_1210 : Cond.static ⟨"BellTowerPlannerLaw", "setChime", "(LBellTowerPlanner;III[J)I"⟩ ∈ gt := gt_in (List.mem_of_getElem? (i := 1210) (by decide +kernel)) (by decide +kernel)
theorem gw_1211 : Cond.codeWith ⟨"BellTowerPlannerLaw", "setChime", "(LBellTowerPlanner;III[J)I"⟩ method_32_code 6 (some .int) [(0, 12, 15, 13), (0, 12, 19, 19)] ∈ gt := gt_in (List.mem_of_getElem? (i := 1211) (by decide +kernel)) (by decide +kernel)
theorem gw_1216 : Cond.methodLink "BellTowerPlannerLaw" 271 ⟨"BellTowerPlannerLaw", "clearChime", "(LBellTowerPlanner;I[J)I"⟩ ∈ gt := gt_in (List.mem_of_getElem? (i := 1216) (by decide +kernel)) (by decide +kernel)
theorem gw_1217 : Cond.static ⟨"BellTowerPlannerLaw", "clearChime", "(LBellTowerPlanner;I[J)I"⟩ ∈ gt := gt_in (List.mem_of_getElem? (i := 1217) (by decide +kernel)) (by decide +kernel)
theorem gw_1218 : Cond.codeWith ⟨"BellTowerPlannerLaw", "clearChime", "(LBellTowerPlanner;I[J)I"⟩ method_33_code 4 (some .int) [(0, 9, 12, 13), (0, 9, 15, 19)] ∈ gt := gt_in (List.mem_of_getElem? (i := 1218) (by decide +kernel)) (by decide +kernel)
theorem gw_1232 : Cond.methodLink "BellTowerPlannerLaw" 274 ⟨"BellTowerPlannerLaw", "isQuiet", "(LBellTowerPlanner;I[J)I"⟩ ∈ gt := gt_in (List.mem_of_getElem? (i := 1232) (by decide +kernel)) (by decide +kernel)
theorem gw_1233 : Cond.static ⟨"BellTowerPlannerLaw", "isQuiet", "(LBellTowerPlanner;I[J)I"⟩ ∈ gt := gt_in (List.mem_of_getElem? (i := 1233) (by decide +kernel)) (by decide +kernel)
theorem gw_1234 : Cond.codeWith ⟨"BellTowerPlannerLaw", "isQuiet", "(LBellTowerPlanner;I[J)I"⟩ method_34_code 4 (some .int) [(0, 16, 19, 13), (0, 16, 22, 19)] ∈ gt := gt_in (List.mem_of_getElem? (i := 1234) (by decide +kernel)) (by decide +kernel)
theorem gw_1239 : Cond.methodLink "BellTowerPlannerLaw" 277 ⟨"BellTowerPlannerLaw", "quietMinutes", "(LBellTowerPlanner;[J)I"⟩ ∈ gt := gt_in (List.mem_of_getElem? (i := 1239) (by decide +kernel)) (by decide +kernel)
theorem gw_1240 : Cond.static ⟨"BellTowerPlannerLaw", "quietMinutes", "(LBellTowerPlanner;[J)I"⟩ ∈ gt := gt_in (List.mem_of_getElem? (i := 1240) (by decide +kernel)) (by decide +kernel)
theorem gw_1241 : Cond.codeWith ⟨"BellTowerPlannerLaw", "quietMinutes", "(LBellTowerPlanner;[J)I"⟩ method_35_code 3 (some .int) [(0, 8, 11, 13)] ∈ gt := gt_in (List.mem_of_getElem? (i := 1241) (by decide +kernel)) (by decide +kernel)
theorem gw_1250 : Cond.methodLink "BellTowerPlannerLaw" 280 ⟨"BellTowerPlannerLaw", "longestLoud", "(LBellTowerPlanner;[J)I"⟩ ∈ gt := gt_in (List.mem_of_getElem? (i := 1250) (by decide +kernel)) (by decide +kernel)
theorem gw_1251 : Cond.static ⟨"BellTowerPlannerLaw", "longestLoud", "(LBellTowerPlanner;[J)I"⟩ ∈ gt := gt_in (List.mem_of_getElem? (i := 1251) (by decide +kernel)) (by decide +kernel)
theorem gw_1252 : Cond.codeWith ⟨"BellTowerPlannerLaw", "longestLoud", "(LBellTowerPlanner;[J)I"⟩ method_36_code 3 (some .int) [(0, 8, 11, 13)] ∈ gt := gt_in (List.mem_of_getElem? (i := 1252) (by decide +kernel)) (by decide +kernel)
theorem gw_1261 : Cond.methodLink "BellTowerPlannerLaw" 283 ⟨"BellTowerPlannerLaw", "soundsAt", "(LBellTowerPlanner;I[J)I"⟩ ∈ gt := gt_in (List.mem_of_getElem? (i := 1261) (by decide +kernel)) (by decide +kernel)
theorem gw_1262 : Cond.static ⟨"BellTowerPlannerLaw", "soundsAt", "(LBellTowerPlanner;I[J)I"⟩ ∈ gt := gt_in (List.mem_of_getElem? (i := 1262) (by decide +kernel)) (by decide +kernel)
theorem gw_1263 : Cond.codeWith ⟨"BellTowerPlannerLaw", "soundsAt", "(LBellTowerPlanner;I[J)I"⟩ method_37_code 4 (some .int) [(0, 9, 12, 13), (0, 9, 15, 19)] ∈ gt := gt_in (List.mem_of_getElem? (i := 1263) (by decide +kernel)) (by decide +kernel)
theorem gw_1282 : Cond.methodLink "BellTowerPlannerLaw" 286 ⟨"BellTowerPlannerLaw", "soundsPerDay", "(LBellTowerPlanner;I[J)I"⟩ ∈ gt := gt_in (List.mem_of_getElem? (i := 1282) (by decide +kernel)) (by decide +kernel)
theorem gw_1283 : Cond.static ⟨"BellTowerPlannerLaw", "soundsPerDay", "(LBellTowerPlanner;I[J)I"⟩ ∈ gt := gt_in (List.mem_of_getElem? (i := 1283) (by decide +kernel)) (by decide +kernel)
theorem gw_1284 : Cond.codeWith ⟨"BellTowerPlannerLaw", "soundsPerDay", "(LBellTowerPlanner;I[J)I"⟩ method_38_code 4 (some .int) [(0, 9, 12, 13), (0, 9, 15, 19)] ∈ gt := gt_in (List.mem_of_getElem? (i := 1284) (by decide +kernel)) (by decide +kernel)
theorem gw_1293 : Cond.methodLink "BellTowerPlannerLaw" 289 ⟨"BellTowerPlannerLaw", "nextSound", "(LBellTowerPlanner;I[J)I"⟩ ∈ gt := gt_in (List.mem_of_getElem? (i := 1293) (by decide +kernel)) (by decide +kernel)
theorem gw_1294 : Cond.static ⟨"BellTowerPlannerLaw", "nextSound", "(LBellTowerPlanner;I[J)I"⟩ ∈ gt := gt_in (List.mem_of_getElem? (i := 1294) (by decide +kernel)) (by decide +kernel)
theorem gw_1295 : Cond.codeWith ⟨"BellTowerPlannerLaw", "nextSound", "(LBellTowerPlanner;I[J)I"⟩ method_39_code 4 (some .int) [(0, 9, 12, 13), (0, 9, 15, 19)] ∈ gt := gt_in (List.mem_of_getElem? (i := 1295) (by decide +kernel)) (by decide +kernel)
theorem gw_1305 : Cond.methodLink "BellTowerPlannerLaw" 292 ⟨"BellTowerPlannerLaw", "busiestMinute", "(LBellTowerPlanner;[J)I"⟩ ∈ gt := gt_in (List.mem_of_getElem? (i := 1305) (by decide +kernel)) (by decide +kernel)
theorem gw_1306 : Cond.static ⟨"BellTowerPlannerLaw", "busiestMinute", "(LBellTowerPlanner;[J)I"⟩ ∈ gt := gt_in (List.mem_of_getElem? (i := 1306) (by decide +kernel)) (by decide +kernel)
theorem gw_1307 : Cond.codeWith ⟨"BellTowerPlannerLaw", "busiestMinute", "(LBellTowerPlanner;[J)I"⟩ method_40_code 3 (some .int) [(0, 8, 11, 13)] ∈ gt := gt_in (List.mem_of_getElem? (i := 1307) (by decide +kernel)) (by decide +kernel)
theorem gw_1317 : Cond.methodLink "BellTowerPlannerLaw" 295 ⟨"BellTowerPlannerLaw", "soundTogether", "(LBellTowerPlanner;II[J)I"⟩ ∈ gt := gt_in (List.mem_of_getElem? (i := 1317) (by decide +kernel)) (by decide +kernel)
theorem gw_1318 : Cond.static ⟨"BellTowerPlannerLaw", "soundTogether", "(LBellTowerPlanner;II[J)I"⟩ ∈ gt := gt_in (List.mem_of_getElem? (i := 1318) (by decide +kernel)) (by decide +kernel)
theorem gw_1319 : Cond.codeWith ⟨"BellTowerPlannerLaw", "soundTogether", "(LBellTowerPlanner;II[J)I"⟩ method_41_code 5 (some .int) [(0, 10, 13, 13), (0, 10, 17, 19)] ∈ gt := gt_in (List.mem_of_getElem? (i := 1319) (by decide +kernel)) (by decide +kernel)
theorem gw_1324 : Cond.methodLink "BellTowerPlannerLaw" 298 ⟨"BellTowerPlannerLaw", "leastDelay", "(LBellTowerPlanner;I[J)I"⟩ ∈ gt := gt_in (List.mem_of_getElem? (i := 1324) (by decide +kernel)) (by decide +kernel)
theorem gw_1325 : Cond.static ⟨"BellTowerPlannerLaw", "leastDelay", "(LBellTowerPlanner;I[J)I"⟩ ∈ gt := gt_in (List.mem_of_getElem? (i := 1325) (by decide +kernel)) (by decide +kernel)
theorem gw_1326 : Cond.codeWith ⟨"BellTowerPlannerLaw", "leastDelay", "(LBellTowerPlanner;I[J)I"⟩ method_42_code 4 (some .int) [(0, 9, 12, 13), (0, 9, 15, 19)] ∈ gt := gt_in (List.mem_of_getElem? (i := 1326) (by decide +kernel)) (by decide +kernel)
theorem gw_1339 : Cond.methodLink "BellTowerPlannerLaw" 301 ⟨"BellTowerPlannerLaw", "ropeLength", "(LBellTowerPlanner;I[J)I"⟩ ∈ gt := gt_in (List.mem_of_getElem? (i := 1339) (by decide +kernel)) (by decide +kernel)
theorem gw_1340 : Cond.static ⟨"BellTowerPlannerLaw", "ropeLength", "(LBellTowerPlanner;I[J)I"⟩ ∈ gt := gt_in (List.mem_of_getElem? (i := 1340) (by decide +kernel)) (by decide +kernel)
theorem gw_1341 : Cond.codeWith ⟨"BellTowerPlannerLaw", "ropeLength", "(LBellTowerPlanner;I[J)I"⟩ method_43_code 4 (some .int) [(0, 9, 12, 13), (0, 9, 15, 19)] ∈ gt := gt_in (List.mem_of_getElem? (i := 1341) (by decide +kernel)) (by decide +kernel)
theorem gw_1351 : Cond.methodLink "BellTowerPlannerLaw" 304 ⟨"BellTowerPlannerLaw", "fewestPieces", "(LBellTowerPlanner;[J)I"⟩ ∈ gt := gt_in (List.mem_of_getElem? (i := 1351) (by decide +kernel)) (by decide +kernel)
theorem gw_1352 : Cond.static ⟨"BellTowerPlannerLaw", "fewestPieces", "(LBellTowerPlanner;[J)I"⟩ ∈ gt := gt_in (List.mem_of_getElem? (i := 1352) (by decide +kernel)) (by decide +kernel)
theorem gw_1353 : Cond.codeWith ⟨"BellTowerPlannerLaw", "fewestPieces", "(LBellTowerPlanner;[J)I"⟩ method_44_code 3 (some .int) [(0, 8, 11, 13)] ∈ gt := gt_in (List.mem_of_getElem? (i := 1353) (by decide +kernel)) (by decide +kernel)
theorem gw_1382 : Cond.methodLink "BellTowerPlannerLaw" 307 ⟨"BellTowerPlannerLaw", "pieceOf", "(LBellTowerPlanner;I[J)I"⟩ ∈ gt := gt_in (List.mem_of_getElem? (i := 1382) (by decide +kernel)) (by decide +kernel)
theorem gw_1383 : Cond.static ⟨"BellTowerPlannerLaw", "pieceOf", "(LBellTowerPlanner;I[J)I"⟩ ∈ gt := gt_in (List.mem_of_getElem? (i := 1383) (by decide +kernel)) (by decide +kernel)
theorem gw_1384 : Cond.codeWith ⟨"BellTowerPlannerLaw", "pieceOf", "(LBellTowerPlanner;I[J)I"⟩ method_45_code 4 (some .int) [(0, 9, 12, 13), (0, 9, 15, 19)] ∈ gt := gt_in (List.mem_of_getElem? (i := 1384) (by decide +kernel)) (by decide +kernel)
theorem gw_1393 : Cond.methodLink "BellTowerPlannerLaw" 310 ⟨"BellTowerPlannerLaw", "waste", "(LBellTowerPlanner;[J)I"⟩ ∈ gt := gt_in (List.mem_of_getElem? (i := 1393) (by decide +kernel)) (by decide +kernel)
theorem gw_1394 : Cond.static ⟨"BellTowerPlannerLaw", "waste", "(LBellTowerPlanner;[J)I"⟩ ∈ gt := gt_in (List.mem_of_getElem? (i := 1394) (by decide +kernel)) (by decide +kernel)
theorem gw_1395 : Cond.codeWith ⟨"BellTowerPlannerLaw", "waste", "(LBellTowerPlanner;[J)I"⟩ method_46_code 3 (some .int) [(0, 8, 11, 13)] ∈ gt := gt_in (List.mem_of_getElem? (i := 1395) (by decide +kernel)) (by decide +kernel)
theorem gw_1405 : Cond.methodLink "BellTowerPlannerLaw" 313 ⟨"BellTowerPlannerLaw", "extraPiece", "(LBellTowerPlanner;[J)I"⟩ ∈ gt := gt_in (List.mem_of_getElem? (i := 1405) (by decide +kernel)) (by decide +kernel)
theorem gw_1406 : Cond.static ⟨"BellTowerPlannerLaw", "extraPiece", "(LBellTowerPlanner;[J)I"⟩ ∈ gt := gt_in (List.mem_of_getElem? (i := 1406) (by decide +kernel)) (by decide +kernel)
theorem gw_1407 : Cond.codeWith ⟨"BellTowerPlannerLaw", "extraPiece", "(LBellTowerPlanner;[J)I"⟩ method_47_code 3 (some .int) [(0, 8, 11, 13)] ∈ gt := gt_in (List.mem_of_getElem? (i := 1407) (by decide +kernel)) (by decide +kernel)
theorem gw_1416 : Cond.methodLink "BellTowerPlannerLaw" 316 ⟨"BellTowerPlannerLaw", "undo", "(LBellTowerPlanner;[J)I"⟩ ∈ gt := gt_in (List.mem_of_getElem? (i := 1416) (by decide +kernel)) (by decide +kernel)
theorem gw_1417 : Cond.static ⟨"BellTowerPlannerLaw", "undo", "(LBellTowerPlanner;[J)I"⟩ ∈ gt := gt_in (List.mem_of_getElem? (i := 1417) (by decide +kernel)) (by decide +kernel)
theorem gw_1418 : Cond.codeWith ⟨"BellTowerPlannerLaw", "undo", "(LBellTowerPlanner;[J)I"⟩ method_48_code 3 (some .int) [(0, 8, 11, 13)] ∈ gt := gt_in (List.mem_of_getElem? (i := 1418) (by decide +kernel)) (by decide +kernel)
theorem gw_1557 : Cond.methodLink "BellTowerPlannerLaw" 169 ⟨"BellTowerPlannerModel", "thrown", "()I"⟩ ∈ gt := gt_in (List.mem_of_getElem? (i := 1557) (by decide +kernel)) (by decide +kernel)
theorem gw_1558 : Cond.instanceMethod ⟨"BellTowerPlannerModel", "thrown", "()I"⟩ ∈ gt := gt_in (List.mem_of_getElem? (i := 1558) (by decide +kernel)) (by decide +kernel)
theorem gw_1559 : Cond.selects "BellTowerPlannerModel" ⟨"BellTowerPlannerModel", "thrown", "()I"⟩ ⟨"BellTowerPlannerModel", "thrown", "()I"⟩ ∈ gt := gt_in (List.mem_of_getElem? (i := 1559) (by decide +kernel)) (by decide +kernel)
theorem gw_1560 : Cond.code ⟨"BellTowerPlannerModel", "thrown", "()I"⟩ prog_12_method_2_code 1 (some .int) ∈ gt := gt_in (List.mem_of_getElem? (i := 1560) (by decide +kernel)) (by decide +kernel)
theorem gw_1561 : Cond.methodLink "BellTowerPlannerLaw" 168 ⟨"BellTowerPlannerModel", "append", "(IIIII)I"⟩ ∈ gt := gt_in (List.mem_of_getElem? (i := 1561) (by decide +kernel)) (by decide +kernel)
theorem gw_1562 : Cond.instanceMethod ⟨"BellTowerPlannerModel", "append", "(IIIII)I"⟩ ∈ gt := gt_in (List.mem_of_getElem? (i := 1562) (by decide +kernel)) (by decide +kernel)
theorem gw_1563 : Cond.selects "BellTowerPlannerModel" ⟨"BellTowerPlannerModel", "append", "(IIIII)I"⟩ ⟨"BellTowerPlannerModel", "append", "(IIIII)I"⟩ ∈ gt := gt_in (List.mem_of_getElem? (i := 1563) (by decide +kernel)) (by decide +kernel)
theorem gw_1564 : Cond.code ⟨"BellTowerPlannerModel", "append", "(IIIII)I"⟩ prog_12_method_9_code 6 (some .int) ∈ gt := gt_in (List.mem_of_getElem? (i := 1564) (by decide +kernel)) (by decide +kernel)
theorem gw_1569 : Cond.methodLink "BellTowerPlannerLaw" 175 ⟨"BellTowerPlannerModel", "truncate", "(I)I"⟩ ∈ gt := gt_in (List.mem_of_getElem? (i := 1569) (by decide +kernel)) (by decide +kernel)
theorem gw_1570 : Cond.instanceMethod ⟨"BellTowerPlannerModel", "truncate", "(I)I"⟩ ∈ gt := gt_in (List.mem_of_getElem? (i := 1570) (by decide +kernel)) (by decide +kernel)
theorem gw_1571 : Cond.selects "BellTowerPlannerModel" ⟨"BellTowerPlannerModel", "truncate", "(I)I"⟩ ⟨"BellTowerPlannerModel", "truncate", "(I)I"⟩ ∈ gt := gt_in (List.mem_of_getElem? (i := 1571) (by decide +kernel)) (by decide +kernel)
theorem gw_1572 : Cond.code ⟨"BellTowerPlannerModel", "truncate", "(I)I"⟩ prog_12_method_10_code 2 (some .int) ∈ gt := gt_in (List.mem_of_getElem? (i := 1572) (by decide +kernel)) (by decide +kernel)
theorem gw_1576 : Cond.methodLink "BellTowerPlannerLaw" 179 ⟨"BellTowerPlannerModel", "load", "()I"⟩ ∈ gt := gt_in (List.mem_of_getElem? (i := 1576) (by decide +kernel)) (by decide +kernel)
theorem gw_1577 : Cond.instanceMethod ⟨"BellTowerPlannerModel", "load", "()I"⟩ ∈ gt := gt_in (List.mem_of_getElem? (i := 1577) (by decide +kernel)) (by decide +kernel)
theorem gw_1578 : Cond.selects "BellTowerPlannerModel" ⟨"BellTowerPlannerModel", "load", "()I"⟩ ⟨"BellTowerPlannerModel", "load", "()I"⟩ ∈ gt := gt_in (List.mem_of_getElem? (i := 1578) (by decide +kernel)) (by decide +kernel)
theorem gw_1579 : Cond.code ⟨"BellTowerPlannerModel", "load", "()I"⟩ prog_12_method_26_code 1 (some .int) ∈ gt := gt_in (List.mem_of_getElem? (i := 1579) (by decide +kernel)) (by decide +kernel)
theorem gw_1655 : Cond.methodLink "BellTowerPlannerLaw" 183 ⟨"BellTowerPlannerModel", "errorPosition", "()I"⟩ ∈ gt := gt_in (List.mem_of_getElem? (i := 1655) (by decide +kernel)) (by decide +kernel)
theorem gw_1656 : Cond.instanceMethod ⟨"BellTowerPlannerModel", "errorPosition", "()I"⟩ ∈ gt := gt_in (List.mem_of_getElem? (i := 1656) (by decide +kernel)) (by decide +kernel)
theorem gw_1657 : Cond.selects "BellTowerPlannerModel" ⟨"BellTowerPlannerModel", "errorPosition", "()I"⟩ ⟨"BellTowerPlannerModel", "errorPosition", "()I"⟩ ∈ gt := gt_in (List.mem_of_getElem? (i := 1657) (by decide +kernel)) (by decide +kernel)
theorem gw_1658 : Cond.code ⟨"BellTowerPlannerModel", "errorPosition", "()I"⟩ prog_12_method_28_code 1 (some .int) ∈ gt := gt_in (List.mem_of_getElem? (i := 1658) (by decide +kernel)) (by decide +kernel)
theorem gw_1659 : Cond.methodLink "BellTowerPlannerLaw" 318 ⟨"BellTowerPlannerModel", "undo", "()I"⟩ ∈ gt := gt_in (List.mem_of_getElem? (i := 1659) (by decide +kernel)) (by decide +kernel)
theorem gw_1660 : Cond.instanceMethod ⟨"BellTowerPlannerModel", "undo", "()I"⟩ ∈ gt := gt_in (List.mem_of_getElem? (i := 1660) (by decide +kernel)) (by decide +kernel)
theorem gw_1661 : Cond.selects "BellTowerPlannerModel" ⟨"BellTowerPlannerModel", "undo", "()I"⟩ ⟨"BellTowerPlannerModel", "undo", "()I"⟩ ∈ gt := gt_in (List.mem_of_getElem? (i := 1661) (by decide +kernel)) (by decide +kernel)
theorem gw_1662 : Cond.code ⟨"BellTowerPlannerModel", "undo", "()I"⟩ prog_12_method_30_code 2 (some .int) ∈ gt := gt_in (List.mem_of_getElem? (i := 1662) (by decide +kernel)) (by decide +kernel)
theorem gw_1667 : Cond.methodLink "BellTowerPlannerLaw" 187 ⟨"BellTowerPlannerModel", "hang", "(III)I"⟩ ∈ gt := gt_in (List.mem_of_getElem? (i := 1667) (by decide +kernel)) (by decide +kernel)
theorem gw_1668 : Cond.instanceMethod ⟨"BellTowerPlannerModel", "hang", "(III)I"⟩ ∈ gt := gt_in (List.mem_of_getElem? (i := 1668) (by decide +kernel)) (by decide +kernel)
theorem gw_1669 : Cond.selects "BellTowerPlannerModel" ⟨"BellTowerPlannerModel", "hang", "(III)I"⟩ ⟨"BellTowerPlannerModel", "hang", "(III)I"⟩ ∈ gt := gt_in (List.mem_of_getElem? (i := 1669) (by decide +kernel)) (by decide +kernel)
theorem gw_1670 : Cond.code ⟨"BellTowerPlannerModel", "hang", "(III)I"⟩ prog_12_method_43_code 4 (some .int) ∈ gt := gt_in (List.mem_of_getElem? (i := 1670) (by decide +kernel)) (by decide +kernel)
theorem gw_1719 : Cond.methodLink "BellTowerPlannerLaw" 190 ⟨"BellTowerPlannerModel", "takeDown", "(I)I"⟩ ∈ gt := gt_in (List.mem_of_getElem? (i := 1719) (by decide +kernel)) (by decide +kernel)
theorem gw_1720 : Cond.instanceMethod ⟨"BellTowerPlannerModel", "takeDown", "(I)I"⟩ ∈ gt := gt_in (List.mem_of_getElem? (i := 1720) (by decide +kernel)) (by decide +kernel)
theorem gw_1721 : Cond.selects "BellTowerPlannerModel" ⟨"BellTowerPlannerModel", "takeDown", "(I)I"⟩ ⟨"BellTowerPlannerModel", "takeDown", "(I)I"⟩ ∈ gt := gt_in (List.mem_of_getElem? (i := 1721) (by decide +kernel)) (by decide +kernel)
theorem gw_1722 : Cond.code ⟨"BellTowerPlannerModel", "takeDown", "(I)I"⟩ prog_12_method_44_code 3 (some .int) ∈ gt := gt_in (List.mem_of_getElem? (i := 1722) (by decide +kernel)) (by decide +kernel)
theorem gw_1723 : Cond.methodLink "BellTowerPlannerLaw" 194 ⟨"BellTowerPlannerModel", "shift", "(II)I"⟩ ∈ gt := gt_in (List.mem_of_getElem? (i := 1723) (by decide +kernel)) (by decide +kernel)
theorem gw_1724 : Cond.instanceMethod ⟨"BellTowerPlannerModel", "shift", "(II)I"⟩ ∈ gt := gt_in (List.mem_of_getElem? (i := 1724) (by decide +kernel)) (by decide +kernel)
theorem gw_1725 : Cond.selects "BellTowerPlannerModel" ⟨"BellTowerPlannerModel", "shift", "(II)I"⟩ ⟨"BellTowerPlannerModel", "shift", "(II)I"⟩ ∈ gt := gt_in (List.mem_of_getElem? (i := 1725) (by decide +kernel)) (by decide +kernel)
theorem gw_1726 : Cond.code ⟨"BellTowerPlannerModel", "shift", "(II)I"⟩ prog_12_method_45_code 5 (some .int) ∈ gt := gt_in (List.mem_of_getElem? (i := 1726) (by decide +kernel)) (by decide +kernel)
theorem gw_1727 : Cond.methodLink "BellTowerPlannerLaw" 197 ⟨"BellTowerPlannerModel", "beamOf", "(I)I"⟩ ∈ gt := gt_in (List.mem_of_getElem? (i := 1727) (by decide +kernel)) (by decide +kernel)
theorem gw_1728 : Cond.instanceMethod ⟨"BellTowerPlannerModel", "beamOf", "(I)I"⟩ ∈ gt := gt_in (List.mem_of_getElem? (i := 1728) (by decide +kernel)) (by decide +kernel)
theorem gw_1729 : Cond.selects "BellTowerPlannerModel" ⟨"BellTowerPlannerModel", "beamOf", "(I)I"⟩ ⟨"BellTowerPlannerModel", "beamOf", "(I)I"⟩ ∈ gt := gt_in (List.mem_of_getElem? (i := 1729) (by decide +kernel)) (by decide +kernel)
theorem gw_1730 : Cond.code ⟨"BellTowerPlannerModel", "beamOf", "(I)I"⟩ prog_12_method_46_code 2 (some .int) ∈ gt := gt_in (List.mem_of_getElem? (i := 1730) (by decide +kernel)) (by decide +kernel)
theorem gw_1731 : Cond.methodLink "BellTowerPlannerLaw" 200 ⟨"BellTowerPlannerModel", "positionOf", "(I)I"⟩ ∈ gt := gt_in (List.mem_of_getElem? (i := 1731) (by decide +kernel)) (by decide +kernel)
theorem gw_1732 : Cond.instanceMethod ⟨"BellTowerPlannerModel", "positionOf", "(I)I"⟩ ∈ gt := gt_in (List.mem_of_getElem? (i := 1732) (by decide +kernel)) (by decide +kernel)
theorem gw_1733 : Cond.selects "BellTowerPlannerModel" ⟨"BellTowerPlannerModel", "positionOf", "(I)I"⟩ ⟨"BellTowerPlannerModel", "positionOf", "(I)I"⟩ ∈ gt := gt_in (List.mem_of_getElem? (i := 1733) (by decide +kernel)) (by decide +kernel)
theorem gw_1734 : Cond.code ⟨"BellTowerPlannerModel", "positionOf", "(I)I"⟩ prog_12_method_47_code 2 (some .int) ∈ gt := gt_in (List.mem_of_getElem? (i := 1734) (by decide +kernel)) (by decide +kernel)
theorem gw_1735 : Cond.methodLink "BellTowerPlannerLaw" 203 ⟨"BellTowerPlannerModel", "torque", "(I)I"⟩ ∈ gt := gt_in (List.mem_of_getElem? (i := 1735) (by decide +kernel)) (by decide +kernel)
theorem gw_1736 : Cond.instanceMethod ⟨"BellTowerPlannerModel", "torque", "(I)I"⟩ ∈ gt := gt_in (List.mem_of_getElem? (i := 1736) (by decide +kernel)) (by decide +kernel)
theorem gw_1737 : Cond.selects "BellTowerPlannerModel" ⟨"BellTowerPlannerModel", "torque", "(I)I"⟩ ⟨"BellTowerPlannerModel", "torque", "(I)I"⟩ ∈ gt := gt_in (List.mem_of_getElem? (i := 1737) (by decide +kernel)) (by decide +kernel)
theorem gw_1738 : Cond.code ⟨"BellTowerPlannerModel", "torque", "(I)I"⟩ prog_12_method_48_code 2 (some .int) ∈ gt := gt_in (List.mem_of_getElem? (i := 1738) (by decide +kernel)) (by decide +kernel)
theorem gw_1739 : Cond.methodLink "BellTowerPlannerLaw" 206 ⟨"BellTowerPlannerModel", "bellAt", "(II)I"⟩ ∈ gt := gt_in (List.mem_of_getElem? (i := 1739) (by decide +kernel)) (by decide +kernel)
theorem gw_1740 : Cond.instanceMethod ⟨"BellTowerPlannerModel", "bellAt", "(II)I"⟩ ∈ gt := gt_in (List.mem_of_getElem? (i := 1740) (by decide +kernel)) (by decide +kernel)
theorem gw_1741 : Cond.selects "BellTowerPlannerModel" ⟨"BellTowerPlannerModel", "bellAt", "(II)I"⟩ ⟨"BellTowerPlannerModel", "bellAt", "(II)I"⟩ ∈ gt := gt_in (List.mem_of_getElem? (i := 1741) (by decide +kernel)) (by decide +kernel)
theorem gw_1742 : Cond.code ⟨"BellTowerPlannerModel", "bellAt", "(II)I"⟩ prog_12_method_49_code 6 (some .int) ∈ gt := gt_in (List.mem_of_getElem? (i := 1742) (by decide +kernel)) (by decide +kernel)
theorem gw_1743 : Cond.methodLink "BellTowerPlannerLaw" 209 ⟨"BellTowerPlannerModel", "freePositions", "(II)I"⟩ ∈ gt := gt_in (List.mem_of_getElem? (i := 1743) (by decide +kernel)) (by decide +kernel)
theorem gw_1744 : Cond.instanceMethod ⟨"BellTowerPlannerModel", "freePositions", "(II)I"⟩ ∈ gt := gt_in (List.mem_of_getElem? (i := 1744) (by decide +kernel)) (by decide +kernel)
theorem gw_1745 : Cond.selects "BellTowerPlannerModel" ⟨"BellTowerPlannerModel", "freePositions", "(II)I"⟩ ⟨"BellTowerPlannerModel", "freePositions", "(II)I"⟩ ∈ gt := gt_in (List.mem_of_getElem? (i := 1745) (by decide +kernel)) (by decide +kernel)
theorem gw_1746 : Cond.code ⟨"BellTowerPlannerModel", "freePositions", "(II)I"⟩ prog_12_method_51_code 5 (some .int) ∈ gt := gt_in (List.mem_of_getElem? (i := 1746) (by decide +kernel)) (by decide +kernel)
theorem gw_1751 : Cond.methodLink "BellTowerPlannerLaw" 212 ⟨"BellTowerPlannerModel", "bestPosition", "(II)I"⟩ ∈ gt := gt_in (List.mem_of_getElem? (i := 1751) (by decide +kernel)) (by decide +kernel)
theorem gw_1752 : Cond.instanceMethod ⟨"BellTowerPlannerModel", "bestPosition", "(II)I"⟩ ∈ gt := gt_in (List.mem_of_getElem? (i := 1752) (by decide +kernel)) (by decide +kernel)
theorem gw_1753 : Cond.selects "BellTowerPlannerModel" ⟨"BellTowerPlannerModel", "bestPosition", "(II)I"⟩ ⟨"BellTowerPlannerModel", "bestPosition", "(II)I"⟩ ∈ gt := gt_in (List.mem_of_getElem? (i := 1753) (by decide +kernel)) (by decide +kernel)
theorem gw_1754 : Cond.code ⟨"BellTowerPlannerModel", "bestPosition", "(II)I"⟩ prog_12_method_52_code 7 (some .int) ∈ gt := gt_in (List.mem_of_getElem? (i := 1754) (by decide +kernel)) (by decide +kernel)
theorem gw_1755 : Cond.methodLink "BellTowerPlannerLaw" 215 ⟨"BellTowerPlannerModel", "mirroredTorque", "(I)I"⟩ ∈ gt := gt_in (List.mem_of_getElem? (i := 1755) (by decide +kernel)) (by decide +kernel)
theorem gw_1756 : Cond.instanceMethod ⟨"BellTowerPlannerModel", "mirroredTorque", "(I)I"⟩ ∈ gt := gt_in (List.mem_of_getElem? (i := 1756) (by decide +kernel)) (by decide +kernel)
theorem gw_1757 : Cond.selects "BellTowerPlannerModel" ⟨"BellTowerPlannerModel", "mirroredTorque", "(I)I"⟩ ⟨"BellTowerPlannerModel", "mirroredTorque", "(I)I"⟩ ∈ gt := gt_in (List.mem_of_getElem? (i := 1757) (by decide +kernel)) (by decide +kernel)
theorem gw_1758 : Cond.code ⟨"BellTowerPlannerModel", "mirroredTorque", "(I)I"⟩ prog_12_method_55_code 3 (some .int) ∈ gt := gt_in (List.mem_of_getElem? (i := 1758) (by decide +kernel)) (by decide +kernel)
theorem gw_1774 : Cond.methodLink "BellTowerPlannerLaw" 218 ⟨"BellTowerPlannerModel", "mirroredBells", "(I)I"⟩ ∈ gt := gt_in (List.mem_of_getElem? (i := 1774) (by decide +kernel)) (by decide +kernel)
theorem gw_1775 : Cond.instanceMethod ⟨"BellTowerPlannerModel", "mirroredBells", "(I)I"⟩ ∈ gt := gt_in (List.mem_of_getElem? (i := 1775) (by decide +kernel)) (by decide +kernel)
theorem gw_1776 : Cond.selects "BellTowerPlannerModel" ⟨"BellTowerPlannerModel", "mirroredBells", "(I)I"⟩ ⟨"BellTowerPlannerModel", "mirroredBells", "(I)I"⟩ ∈ gt := gt_in (List.mem_of_getElem? (i := 1776) (by decide +kernel)) (by decide +kernel)
theorem gw_1777 : Cond.code ⟨"BellTowerPlannerModel", "mirroredBells", "(I)I"⟩ prog_12_method_56_code 2 (some .int) ∈ gt := gt_in (List.mem_of_getElem? (i := 1777) (by decide +kernel)) (by decide +kernel)
theorem gw_1778 : Cond.methodLink "BellTowerPlannerLaw" 221 ⟨"BellTowerPlannerModel", "setPlan", "(III)I"⟩ ∈ gt := gt_in (List.mem_of_getElem? (i := 1778) (by decide +kernel)) (by decide +kernel)
theorem gw_1779 : Cond.instanceMethod ⟨"BellTowerPlannerModel", "setPlan", "(III)I"⟩ ∈ gt := gt_in (List.mem_of_getElem? (i := 1779) (by decide +kernel)) (by decide +kernel)
theorem gw_1780 : Cond.selects "BellTowerPlannerModel" ⟨"BellTowerPlannerModel", "setPlan", "(III)I"⟩ ⟨"BellTowerPlannerModel", "setPlan", "(III)I"⟩ ∈ gt := gt_in (List.mem_of_getElem? (i := 1780) (by decide +kernel)) (by decide +kernel)
theorem gw_1781 : Cond.code ⟨"BellTowerPlannerModel", "setPlan", "(III)I"⟩ prog_12_method_58_code 4 (some .int) ∈ gt := gt_in (List.mem_of_getElem? (i := 1781) (by decide +kernel)) (by decide +kernel)
theorem gw_1786 : Cond.methodLink "BellTowerPlannerLaw" 224 ⟨"BellTowerPlannerModel", "clearPlan", "(I)I"⟩ ∈ gt := gt_in (List.mem_of_getElem? (i := 1786) (by decide +kernel)) (by decide +kernel)
theorem gw_1787 : Cond.instanceMethod ⟨"BellTowerPlannerModel", "clearPlan", "(I)I"⟩ ∈ gt := gt_in (List.mem_of_getElem? (i := 1787) (by decide +kernel)) (by decide +kernel)
theorem gw_1788 : Cond.selects "BellTowerPlannerModel" ⟨"BellTowerPlannerModel", "clearPlan", "(I)I"⟩ ⟨"BellTowerPlannerModel", "clearPlan", "(I)I"⟩ ∈ gt := gt_in (List.mem_of_getElem? (i := 1788) (by decide +kernel)) (by decide +kernel)
theorem gw_1789 : Cond.code ⟨"BellTowerPlannerModel", "clearPlan", "(I)I"⟩ prog_12_method_59_code 2 (some .int) ∈ gt := gt_in (List.mem_of_getElem? (i := 1789) (by decide +kernel)) (by decide +kernel)
theorem gw_1790 : Cond.methodLink "BellTowerPlannerLaw" 228 ⟨"BellTowerPlannerModel", "planConflicts", "()I"⟩ ∈ gt := gt_in (List.mem_of_getElem? (i := 1790) (by decide +kernel)) (by decide +kernel)
theorem gw_1791 : Cond.instanceMethod ⟨"BellTowerPlannerModel", "planConflicts", "()I"⟩ ∈ gt := gt_in (List.mem_of_getElem? (i := 1791) (by decide +kernel)) (by decide +kernel)
theorem gw_1792 : Cond.selects "BellTowerPlannerModel" ⟨"BellTowerPlannerModel", "planConflicts", "()I"⟩ ⟨"BellTowerPlannerModel", "planConflicts", "()I"⟩ ∈ gt := gt_in (List.mem_of_getElem? (i := 1792) (by decide +kernel)) (by decide +kernel)
theorem gw_1793 : Cond.code ⟨"BellTowerPlannerModel", "planConflicts", "()I"⟩ prog_12_method_67_code 4 (some .int) ∈ gt := gt_in (List.mem_of_getElem? (i := 1793) (by decide +kernel)) (by decide +kernel)
theorem gw_1810 : Cond.methodLink "BellTowerPlannerLaw" 231 ⟨"BellTowerPlannerModel", "planUnbalanced", "()I"⟩ ∈ gt := gt_in (List.mem_of_getElem? (i := 1810) (by decide +kernel)) (by decide +kernel)
theorem gw_1811 : Cond.instanceMethod ⟨"BellTowerPlannerModel", "planUnbalanced", "()I"⟩ ∈ gt := gt_in (List.mem_of_getElem? (i := 1811) (by decide +kernel)) (by decide +kernel)
theorem gw_1812 : Cond.selects "BellTowerPlannerModel" ⟨"BellTowerPlannerModel", "planUnbalanced", "()I"⟩ ⟨"BellTowerPlannerModel", "planUnbalanced", "()I"⟩ ∈ gt := gt_in (List.mem_of_getElem? (i := 1812) (by decide +kernel)) (by decide +kernel)
theorem gw_1813 : Cond.code ⟨"BellTowerPlannerModel", "planUnbalanced", "()I"⟩ prog_12_method_68_code 3 (some .int) ∈ gt := gt_in (List.mem_of_getElem? (i := 1813) (by decide +kernel)) (by decide +kernel)
theorem gw_1818 : Cond.methodLink "BellTowerPlannerLaw" 234 ⟨"BellTowerPlannerModel", "stepsToPlan", "()I"⟩ ∈ gt := gt_in (List.mem_of_getElem? (i := 1818) (by decide +kernel)) (by decide +kernel)
theorem gw_1819 : Cond.instanceMethod ⟨"BellTowerPlannerModel", "stepsToPlan", "()I"⟩ ∈ gt := gt_in (List.mem_of_getElem? (i := 1819) (by decide +kernel)) (by decide +kernel)
theorem gw_1820 : Cond.selects "BellTowerPlannerModel" ⟨"BellTowerPlannerModel", "stepsToPlan", "()I"⟩ ⟨"BellTowerPlannerModel", "stepsToPlan", "()I"⟩ ∈ gt := gt_in (List.mem_of_getElem? (i := 1820) (by decide +kernel)) (by decide +kernel)
theorem gw_1821 : Cond.code ⟨"BellTowerPlannerModel", "stepsToPlan", "()I"⟩ prog_12_method_74_code 2 (some .int) ∈ gt := gt_in (List.mem_of_getElem? (i := 1821) (by decide +kernel)) (by decide +kernel)
theorem gw_1849 : Cond.methodLink "BellTowerPlannerLaw" 237 ⟨"BellTowerPlannerModel", "planStep", "(I)I"⟩ ∈ gt := gt_in (List.mem_of_getElem? (i := 1849) (by decide +kernel)) (by decide +kernel)
theorem gw_1850 : Cond.instanceMethod ⟨"BellTowerPlannerModel", "planStep", "(I)I"⟩ ∈ gt := gt_in (List.mem_of_getElem? (i := 1850) (by decide +kernel)) (by decide +kernel)
theorem gw_1851 : Cond.selects "BellTowerPlannerModel" ⟨"BellTowerPlannerModel", "planStep", "(I)I"⟩ ⟨"BellTowerPlannerModel", "planStep", "(I)I"⟩ ∈ gt := gt_in (List.mem_of_getElem? (i := 1851) (by decide +kernel)) (by decide +kernel)
theorem gw_1852 : Cond.code ⟨"BellTowerPlannerModel", "planStep", "(I)I"⟩ prog_12_method_75_code 5 (some .int) ∈ gt := gt_in (List.mem_of_getElem? (i := 1852) (by decide +kernel)) (by decide +kernel)
theorem gw_1853 : Cond.methodLink "BellTowerPlannerLaw" 240 ⟨"BellTowerPlannerModel", "startSwing", "(III)I"⟩ ∈ gt := gt_in (List.mem_of_getElem? (i := 1853) (by decide +kernel)) (by decide +kernel)
theorem gw_1854 : Cond.instanceMethod ⟨"BellTowerPlannerModel", "startSwing", "(III)I"⟩ ∈ gt := gt_in (List.mem_of_getElem? (i := 1854) (by decide +kernel)) (by decide +kernel)
theorem gw_1855 : Cond.selects "BellTowerPlannerModel" ⟨"BellTowerPlannerModel", "startSwing", "(III)I"⟩ ⟨"BellTowerPlannerModel", "startSwing", "(III)I"⟩ ∈ gt := gt_in (List.mem_of_getElem? (i := 1855) (by decide +kernel)) (by decide +kernel)
theorem gw_1856 : Cond.code ⟨"BellTowerPlannerModel", "startSwing", "(III)I"⟩ prog_12_method_77_code 4 (some .int) ∈ gt := gt_in (List.mem_of_getElem? (i := 1856) (by decide +kernel)) (by decide +kernel)
theorem gw_1866 : Cond.methodLink "BellTowerPlannerLaw" 243 ⟨"BellTowerPlannerModel", "stopSwing", "(I)I"⟩ ∈ gt := gt_in (List.mem_of_getElem? (i := 1866) (by decide +kernel)) (by decide +kernel)
theorem gw_1867 : Cond.instanceMethod ⟨"BellTowerPlannerModel", "stopSwing", "(I)I"⟩ ∈ gt := gt_in (List.mem_of_getElem? (i := 1867) (by decide +kernel)) (by decide +kernel)
theorem gw_1868 : Cond.selects "BellTowerPlannerModel" ⟨"BellTowerPlannerModel", "stopSwing", "(I)I"⟩ ⟨"BellTowerPlannerModel", "stopSwing", "(I)I"⟩ ∈ gt := gt_in (List.mem_of_getElem? (i := 1868) (by decide +kernel)) (by decide +kernel)
theorem gw_1869 : Cond.code ⟨"BellTowerPlannerModel", "stopSwing", "(I)I"⟩ prog_12_method_78_code 2 (some .int) ∈ gt := gt_in (List.mem_of_getElem? (i := 1869) (by decide +kernel)) (by decide +kernel)
theorem gw_1870 : Cond.methodLink "BellTowerPlannerLaw" 246 ⟨"BellTowerPlannerModel", "offset", "(II)I"⟩ ∈ gt := gt_in (List.mem_of_getElem? (i := 1870) (by decide +kernel)) (by decide +kernel)
theorem gw_1871 : Cond.instanceMethod ⟨"BellTowerPlannerModel", "offset", "(II)I"⟩ ∈ gt := gt_in (List.mem_of_getElem? (i := 1871) (by decide +kernel)) (by decide +kernel)
theorem gw_1872 : Cond.selects "BellTowerPlannerModel" ⟨"BellTowerPlannerModel", "offset", "(II)I"⟩ ⟨"BellTowerPlannerModel", "offset", "(II)I"⟩ ∈ gt := gt_in (List.mem_of_getElem? (i := 1872) (by decide +kernel)) (by decide +kernel)
theorem gw_1873 : Cond.code ⟨"BellTowerPlannerModel", "offset", "(II)I"⟩ prog_12_method_81_code 3 (some .int) ∈ gt := gt_in (List.mem_of_getElem? (i := 1873) (by decide +kernel)) (by decide +kernel)
theorem gw_1883 : Cond.methodLink "BellTowerPlannerLaw" 249 ⟨"BellTowerPlannerModel", "gap", "(III)I"⟩ ∈ gt := gt_in (List.mem_of_getElem? (i := 1883) (by decide +kernel)) (by decide +kernel)
theorem gw_1884 : Cond.instanceMethod ⟨"BellTowerPlannerModel", "gap", "(III)I"⟩ ∈ gt := gt_in (List.mem_of_getElem? (i := 1884) (by decide +kernel)) (by decide +kernel)
theorem gw_1885 : Cond.selects "BellTowerPlannerModel" ⟨"BellTowerPlannerModel", "gap", "(III)I"⟩ ⟨"BellTowerPlannerModel", "gap", "(III)I"⟩ ∈ gt := gt_in (List.mem_of_getElem? (i := 1885) (by decide +kernel)) (by decide +kernel)
theorem gw_1886 : Cond.code ⟨"BellTowerPlannerModel", "gap", "(III)I"⟩ prog_12_method_84_code 4 (some .int) ∈ gt := gt_in (List.mem_of_getElem? (i := 1886) (by decide +kernel)) (by decide +kernel)
theorem gw_1895 : Cond.methodLink "BellTowerPlannerLaw" 252 ⟨"BellTowerPlannerModel", "firstCollision", "()I"⟩ ∈ gt := gt_in (List.mem_of_getElem? (i := 1895) (by decide +kernel)) (by decide +kernel)
theorem gw_1896 : Cond.instanceMethod ⟨"BellTowerPlannerModel", "firstCollision", "()I"⟩ ∈ gt := gt_in (List.mem_of_getElem? (i := 1896) (by decide +kernel)) (by decide +kernel)
theorem gw_1897 : Cond.selects "BellTowerPlannerModel" ⟨"BellTowerPlannerModel", "firstCollision", "()I"⟩ ⟨"BellTowerPlannerModel", "firstCollision", "()I"⟩ ∈ gt := gt_in (List.mem_of_getElem? (i := 1897) (by decide +kernel)) (by decide +kernel)
theorem gw_1898 : Cond.code ⟨"BellTowerPlannerModel", "firstCollision", "()I"⟩ prog_12_method_87_code 2 (some .int) ∈ gt := gt_in (List.mem_of_getElem? (i := 1898) (by decide +kernel)) (by decide +kernel)
theorem gw_1907 : Cond.methodLink "BellTowerPlannerLaw" 255 ⟨"BellTowerPlannerModel", "collidingBells", "()I"⟩ ∈ gt := gt_in (List.mem_of_getElem? (i := 1907) (by decide +kernel)) (by decide +kernel)
theorem gw_1908 : Cond.instanceMethod ⟨"BellTowerPlannerModel", "collidingBells", "()I"⟩ ∈ gt := gt_in (List.mem_of_getElem? (i := 1908) (by decide +kernel)) (by decide +kernel)
theorem gw_1909 : Cond.selects "BellTowerPlannerModel" ⟨"BellTowerPlannerModel", "collidingBells", "()I"⟩ ⟨"BellTowerPlannerModel", "collidingBells", "()I"⟩ ∈ gt := gt_in (List.mem_of_getElem? (i := 1909) (by decide +kernel)) (by decide +kernel)
theorem gw_1910 : Cond.code ⟨"BellTowerPlannerModel", "collidingBells", "()I"⟩ prog_12_method_88_code 2 (some .int) ∈ gt := gt_in (List.mem_of_getElem? (i := 1910) (by decide +kernel)) (by decide +kernel)
theorem gw_1911 : Cond.methodLink "BellTowerPlannerLaw" 258 ⟨"BellTowerPlannerModel", "safeStart", "(II)I"⟩ ∈ gt := gt_in (List.mem_of_getElem? (i := 1911) (by decide +kernel)) (by decide +kernel)
theorem gw_1912 : Cond.instanceMethod ⟨"BellTowerPlannerModel", "safeStart", "(II)I"⟩ ∈ gt := gt_in (List.mem_of_getElem? (i := 1912) (by decide +kernel)) (by decide +kernel)
theorem gw_1913 : Cond.selects "BellTowerPlannerModel" ⟨"BellTowerPlannerModel", "safeStart", "(II)I"⟩ ⟨"BellTowerPlannerModel", "safeStart", "(II)I"⟩ ∈ gt := gt_in (List.mem_of_getElem? (i := 1913) (by decide +kernel)) (by decide +kernel)
theorem gw_1914 : Cond.code ⟨"BellTowerPlannerModel", "safeStart", "(II)I"⟩ prog_12_method_90_code 4 (some .int) ∈ gt := gt_in (List.mem_of_getElem? (i := 1914) (by decide +kernel)) (by decide +kernel)
theorem gw_1919 : Cond.methodLink "BellTowerPlannerLaw" 261 ⟨"BellTowerPlannerModel", "safeAmplitude", "(I)I"⟩ ∈ gt := gt_in (List.mem_of_getElem? (i := 1919) (by decide +kernel)) (by decide +kernel)
theorem gw_1920 : Cond.instanceMethod ⟨"BellTowerPlannerModel", "safeAmplitude", "(I)I"⟩ ∈ gt := gt_in (List.mem_of_getElem? (i := 1920) (by decide +kernel)) (by decide +kernel)
theorem gw_1921 : Cond.selects "BellTowerPlannerModel" ⟨"BellTowerPlannerModel", "safeAmplitude", "(I)I"⟩ ⟨"BellTowerPlannerModel", "safeAmplitude", "(I)I"⟩ ∈ gt := gt_in (List.mem_of_getElem? (i := 1921) (by decide +kernel)) (by decide +kernel)
theorem gw_1922 : Cond.code ⟨"BellTowerPlannerModel", "safeAmplitude", "(I)I"⟩ prog_12_method_91_code 3 (some .int) ∈ gt := gt_in (List.mem_of_getElem? (i := 1922) (by decide +kernel)) (by decide +kernel)
theorem gw_1923 : Cond.methodLink "BellTowerPlannerLaw" 264 ⟨"BellTowerPlannerModel", "strikes", "(III)I"⟩ ∈ gt := gt_in (List.mem_of_getElem? (i := 1923) (by decide +kernel)) (by decide +kernel)
theorem gw_1924 : Cond.instanceMethod ⟨"BellTowerPlannerModel", "strikes", "(III)I"⟩ ∈ gt := gt_in (List.mem_of_getElem? (i := 1924) (by decide +kernel)) (by decide +kernel)
theorem gw_1925 : Cond.selects "BellTowerPlannerModel" ⟨"BellTowerPlannerModel", "strikes", "(III)I"⟩ ⟨"BellTowerPlannerModel", "strikes", "(III)I"⟩ ∈ gt := gt_in (List.mem_of_getElem? (i := 1925) (by decide +kernel)) (by decide +kernel)
theorem gw_1926 : Cond.code ⟨"BellTowerPlannerModel", "strikes", "(III)I"⟩ prog_12_method_93_code 6 (some .int) ∈ gt := gt_in (List.mem_of_getElem? (i := 1926) (by decide +kernel)) (by decide +kernel)
theorem gw_1931 : Cond.methodLink "BellTowerPlannerLaw" 267 ⟨"BellTowerPlannerModel", "strikeTogether", "(II)I"⟩ ∈ gt := gt_in (List.mem_of_getElem? (i := 1931) (by decide +kernel)) (by decide +kernel)
theorem gw_1932 : Cond.instanceMethod ⟨"BellTowerPlannerModel", "strikeTogether", "(II)I"⟩ ∈ gt := gt_in (List.mem_of_getElem? (i := 1932) (by decide +kernel)) (by decide +kernel)
theorem gw_1933 : Cond.selects "BellTowerPlannerModel" ⟨"BellTowerPlannerModel", "strikeTogether", "(II)I"⟩ ⟨"BellTowerPlannerModel", "strikeTogether", "(II)I"⟩ ∈ gt := gt_in (List.mem_of_getElem? (i := 1933) (by decide +kernel)) (by decide +kernel)
theorem gw_1934 : Cond.code ⟨"BellTowerPlannerModel", "strikeTogether", "(II)I"⟩ prog_12_method_94_code 4 (some .int) ∈ gt := gt_in (List.mem_of_getElem? (i := 1934) (by decide +kernel)) (by decide +kernel)
theorem gw_1935 : Cond.methodLink "BellTowerPlannerLaw" 270 ⟨"BellTowerPlannerModel", "setChime", "(III)I"⟩ ∈ gt := gt_in (List.mem_of_getElem? (i := 1935) (by decide +kernel)) (by decide +kernel)
theorem gw_1936 : Cond.instanceMethod ⟨"BellTowerPlannerModel", "setChime", "(III)I"⟩ ∈ gt := gt_in (List.mem_of_getElem? (i := 1936) (by decide +kernel)) (by decide +kernel)
theorem gw_1937 : Cond.selects "BellTowerPlannerModel" ⟨"BellTowerPlannerModel", "setChime", "(III)I"⟩ ⟨"BellTowerPlannerModel", "setChime", "(III)I"⟩ ∈ gt := gt_in (List.mem_of_getElem? (i := 1937) (by decide +kernel)) (by decide +kernel)
theorem gw_1938 : Cond.code ⟨"BellTowerPlannerModel", "setChime", "(III)I"⟩ prog_12_method_95_code 4 (some .int) ∈ gt := gt_in (List.mem_of_getElem? (i := 1938) (by decide +kernel)) (by decide +kernel)
theorem gw_1941 : Cond.methodLink "BellTowerPlannerLaw" 273 ⟨"BellTowerPlannerModel", "clearChime", "(I)I"⟩ ∈ gt := gt_in (List.mem_of_getElem? (i := 1941) (by decide +kernel)) (by decide +kernel)
theorem gw_1942 : Cond.instanceMethod ⟨"BellTowerPlannerModel", "clearChime", "(I)I"⟩ ∈ gt := gt_in (List.mem_of_getElem? (i := 1942) (by decide +kernel)) (by decide +kernel)
theorem gw_1943 : Cond.selects "BellTowerPlannerModel" ⟨"BellTowerPlannerModel", "clearChime", "(I)I"⟩ ⟨"BellTowerPlannerModel", "clearChime", "(I)I"⟩ ∈ gt := gt_in (List.mem_of_getElem? (i := 1943) (by decide +kernel)) (by decide +kernel)
theorem gw_1944 : Cond.code ⟨"BellTowerPlannerModel", "clearChime", "(I)I"⟩ prog_12_method_96_code 4 (some .int) ∈ gt := gt_in (List.mem_of_getElem? (i := 1944) (by decide +kernel)) (by decide +kernel)
theorem gw_1949 : Cond.methodLink "BellTowerPlannerLaw" 276 ⟨"BellTowerPlannerModel", "isQuiet", "(I)Z"⟩ ∈ gt := gt_in (List.mem_of_getElem? (i := 1949) (by decide +kernel)) (by decide +kernel)
theorem gw_1950 : Cond.instanceMethod ⟨"BellTowerPlannerModel", "isQuiet", "(I)Z"⟩ ∈ gt := gt_in (List.mem_of_getElem? (i := 1950) (by decide +kernel)) (by decide +kernel)
theorem gw_1951 : Cond.selects "BellTowerPlannerModel" ⟨"BellTowerPlannerModel", "isQuiet", "(I)Z"⟩ ⟨"BellTowerPlannerModel", "isQuiet", "(I)Z"⟩ ∈ gt := gt_in (List.mem_of_getElem? (i := 1951) (by decide +kernel)) (by decide +kernel)
theorem gw_1952 : Cond.code ⟨"BellTowerPlannerModel", "isQuiet", "(I)Z"⟩ prog_12_method_98_code 2 (some .boolean) ∈ gt := gt_in (List.mem_of_getElem? (i := 1952) (by decide +kernel)) (by decide +kernel)
theorem gw_1957 : Cond.methodLink "BellTowerPlannerLaw" 279 ⟨"BellTowerPlannerModel", "quietMinutes", "()I"⟩ ∈ gt := gt_in (List.mem_of_getElem? (i := 1957) (by decide +kernel)) (by decide +kernel)
theorem gw_1958 : Cond.instanceMethod ⟨"BellTowerPlannerModel", "quietMinutes", "()I"⟩ ∈ gt := gt_in (List.mem_of_getElem? (i := 1958) (by decide +kernel)) (by decide +kernel)
theorem gw_1959 : Cond.selects "BellTowerPlannerModel" ⟨"BellTowerPlannerModel", "quietMinutes", "()I"⟩ ⟨"BellTowerPlannerModel", "quietMinutes", "()I"⟩ ∈ gt := gt_in (List.mem_of_getElem? (i := 1959) (by decide +kernel)) (by decide +kernel)
theorem gw_1960 : Cond.code ⟨"BellTowerPlannerModel", "quietMinutes", "()I"⟩ prog_12_method_99_code 3 (some .int) ∈ gt := gt_in (List.mem_of_getElem? (i := 1960) (by decide +kernel)) (by decide +kernel)
theorem gw_1961 : Cond.methodLink "BellTowerPlannerLaw" 282 ⟨"BellTowerPlannerModel", "longestLoud", "()I"⟩ ∈ gt := gt_in (List.mem_of_getElem? (i := 1961) (by decide +kernel)) (by decide +kernel)
theorem gw_1962 : Cond.instanceMethod ⟨"BellTowerPlannerModel", "longestLoud", "()I"⟩ ∈ gt := gt_in (List.mem_of_getElem? (i := 1962) (by decide +kernel)) (by decide +kernel)
theorem gw_1963 : Cond.selects "BellTowerPlannerModel" ⟨"BellTowerPlannerModel", "longestLoud", "()I"⟩ ⟨"BellTowerPlannerModel", "longestLoud", "()I"⟩ ∈ gt := gt_in (List.mem_of_getElem? (i := 1963) (by decide +kernel)) (by decide +kernel)
theorem gw_1964 : Cond.code ⟨"BellTowerPlannerModel", "longestLoud", "()I"⟩ prog_12_method_100_code 4 (some .int) ∈ gt := gt_in (List.mem_of_getElem? (i := 1964) (by decide +kernel)) (by decide +kernel)
theorem gw_1965 : Cond.methodLink "BellTowerPlannerLaw" 285 ⟨"BellTowerPlannerModel", "soundsAt", "(I)I"⟩ ∈ gt := gt_in (List.mem_of_getElem? (i := 1965) (by decide +kernel)) (by decide +kernel)
theorem gw_1966 : Cond.instanceMethod ⟨"BellTowerPlannerModel", "soundsAt", "(I)I"⟩ ∈ gt := gt_in (List.mem_of_getElem? (i := 1966) (by decide +kernel)) (by decide +kernel)
theorem gw_1967 : Cond.selects "BellTowerPlannerModel" ⟨"BellTowerPlannerModel", "soundsAt", "(I)I"⟩ ⟨"BellTowerPlannerModel", "soundsAt", "(I)I"⟩ ∈ gt := gt_in (List.mem_of_getElem? (i := 1967) (by decide +kernel)) (by decide +kernel)
theorem gw_1968 : Cond.code ⟨"BellTowerPlannerModel", "soundsAt", "(I)I"⟩ prog_12_method_103_code 2 (some .int) ∈ gt := gt_in (List.mem_of_getElem? (i := 1968) (by decide +kernel)) (by decide +kernel)
theorem gw_1977 : Cond.methodLink "BellTowerPlannerLaw" 288 ⟨"BellTowerPlannerModel", "soundsPerDay", "(I)I"⟩ ∈ gt := gt_in (List.mem_of_getElem? (i := 1977) (by decide +kernel)) (by decide +kernel)
theorem gw_1978 : Cond.instanceMethod ⟨"BellTowerPlannerModel", "soundsPerDay", "(I)I"⟩ ∈ gt := gt_in (List.mem_of_getElem? (i := 1978) (by decide +kernel)) (by decide +kernel)
theorem gw_1979 : Cond.selects "BellTowerPlannerModel" ⟨"BellTowerPlannerModel", "soundsPerDay", "(I)I"⟩ ⟨"BellTowerPlannerModel", "soundsPerDay", "(I)I"⟩ ∈ gt := gt_in (List.mem_of_getElem? (i := 1979) (by decide +kernel)) (by decide +kernel)
theorem gw_1980 : Cond.code ⟨"BellTowerPlannerModel", "soundsPerDay", "(I)I"⟩ prog_12_method_104_code 4 (some .int) ∈ gt := gt_in (List.mem_of_getElem? (i := 1980) (by decide +kernel)) (by decide +kernel)
theorem gw_1981 : Cond.methodLink "BellTowerPlannerLaw" 291 ⟨"BellTowerPlannerModel", "nextSound", "(I)I"⟩ ∈ gt := gt_in (List.mem_of_getElem? (i := 1981) (by decide +kernel)) (by decide +kernel)
theorem gw_1982 : Cond.instanceMethod ⟨"BellTowerPlannerModel", "nextSound", "(I)I"⟩ ∈ gt := gt_in (List.mem_of_getElem? (i := 1982) (by decide +kernel)) (by decide +kernel)
theorem gw_1983 : Cond.selects "BellTowerPlannerModel" ⟨"BellTowerPlannerModel", "nextSound", "(I)I"⟩ ⟨"BellTowerPlannerModel", "nextSound", "(I)I"⟩ ∈ gt := gt_in (List.mem_of_getElem? (i := 1983) (by decide +kernel)) (by decide +kernel)
theorem gw_1984 : Cond.code ⟨"BellTowerPlannerModel", "nextSound", "(I)I"⟩ prog_12_method_105_code 3 (some .int) ∈ gt := gt_in (List.mem_of_getElem? (i := 1984) (by decide +kernel)) (by decide +kernel)
theorem gw_1985 : Cond.methodLink "BellTowerPlannerLaw" 294 ⟨"BellTowerPlannerModel", "busiestMinute", "()I"⟩ ∈ gt := gt_in (List.mem_of_getElem? (i := 1985) (by decide +kernel)) (by decide +kernel)
theorem gw_1986 : Cond.instanceMethod ⟨"BellTowerPlannerModel", "busiestMinute", "()I"⟩ ∈ gt := gt_in (List.mem_of_getElem? (i := 1986) (by decide +kernel)) (by decide +kernel)
theorem gw_1987 : Cond.selects "BellTowerPlannerModel" ⟨"BellTowerPlannerModel", "busiestMinute", "()I"⟩ ⟨"BellTowerPlannerModel", "busiestMinute", "()I"⟩ ∈ gt := gt_in (List.mem_of_getElem? (i := 1987) (by decide +kernel)) (by decide +kernel)
theorem gw_1988 : Cond.code ⟨"BellTowerPlannerModel", "busiestMinute", "()I"⟩ prog_12_method_106_code 5 (some .int) ∈ gt := gt_in (List.mem_of_getElem? (i := 1988) (by decide +kernel)) (by decide +kernel)
theorem gw_1989 : Cond.methodLink "BellTowerPlannerLaw" 297 ⟨"BellTowerPlannerModel", "soundTogether", "(II)I"⟩ ∈ gt := gt_in (List.mem_of_getElem? (i := 1989) (by decide +kernel)) (by decide +kernel)
theorem gw_1990 : Cond.instanceMethod ⟨"BellTowerPlannerModel", "soundTogether", "(II)I"⟩ ∈ gt := gt_in (List.mem_of_getElem? (i := 1990) (by decide +kernel)) (by decide +kernel)
theorem gw_1991 : Cond.selects "BellTowerPlannerModel" ⟨"BellTowerPlannerModel", "soundTogether", "(II)I"⟩ ⟨"BellTowerPlannerModel", "soundTogether", "(II)I"⟩ ∈ gt := gt_in (List.mem_of_getElem? (i := 1991) (by decide +kernel)) (by decide +kernel)
theorem gw_1992 : Cond.code ⟨"BellTowerPlannerModel", "soundTogether", "(II)I"⟩ prog_12_method_107_code 5 (some .int) ∈ gt := gt_in (List.mem_of_getElem? (i := 1992) (by decide +kernel)) (by decide +kernel)
theorem gw_1993 : Cond.methodLink "BellTowerPlannerLaw" 300 ⟨"BellTowerPlannerModel", "leastDelay", "(I)I"⟩ ∈ gt := gt_in (List.mem_of_getElem? (i := 1993) (by decide +kernel)) (by decide +kernel)
theorem gw_1994 : Cond.instanceMethod ⟨"BellTowerPlannerModel", "leastDelay", "(I)I"⟩ ∈ gt := gt_in (List.mem_of_getElem? (i := 1994) (by decide +kernel)) (by decide +kernel)
theorem gw_1995 : Cond.selects "BellTowerPlannerModel" ⟨"BellTowerPlannerModel", "leastDelay", "(I)I"⟩ ⟨"BellTowerPlannerModel", "leastDelay", "(I)I"⟩ ∈ gt := gt_in (List.mem_of_getElem? (i := 1995) (by decide +kernel)) (by decide +kernel)
theorem gw_1996 : Cond.code ⟨"BellTowerPlannerModel", "leastDelay", "(I)I"⟩ prog_12_method_109_code 3 (some .int) ∈ gt := gt_in (List.mem_of_getElem? (i := 1996) (by decide +kernel)) (by decide +kernel)
theorem gw_2001 : Cond.methodLink "BellTowerPlannerLaw" 303 ⟨"BellTowerPlannerModel", "ropeLength", "(I)I"⟩ ∈ gt := gt_in (List.mem_of_getElem? (i := 2001) (by decide +kernel)) (by decide +kernel)
theorem gw_2002 : Cond.instanceMethod ⟨"BellTowerPlannerModel", "ropeLength", "(I)I"⟩ ∈ gt := gt_in (List.mem_of_getElem? (i := 2002) (by decide +kernel)) (by decide +kernel)
theorem gw_2003 : Cond.selects "BellTowerPlannerModel" ⟨"BellTowerPlannerModel", "ropeLength", "(I)I"⟩ ⟨"BellTowerPlannerModel", "ropeLength", "(I)I"⟩ ∈ gt := gt_in (List.mem_of_getElem? (i := 2003) (by decide +kernel)) (by decide +kernel)
theorem gw_2004 : Cond.code ⟨"BellTowerPlannerModel", "ropeLength", "(I)I"⟩ prog_12_method_118_code 2 (some .int) ∈ gt := gt_in (List.mem_of_getElem? (i := 2004) (by decide +kernel)) (by decide +kernel)
theorem gw_2009 : Cond.methodLink "BellTowerPlannerLaw" 306 ⟨"BellTowerPlannerModel", "fewestPieces", "()I"⟩ ∈ gt := gt_in (List.mem_of_getElem? (i := 2009) (by decide +kernel)) (by decide +kernel)
theorem gw_2010 : Cond.instanceMethod ⟨"BellTowerPlannerModel", "fewestPieces", "()I"⟩ ∈ gt := gt_in (List.mem_of_getElem? (i := 2010) (by decide +kernel)) (by decide +kernel)
theorem gw_2011 : Cond.selects "BellTowerPlannerModel" ⟨"BellTowerPlannerModel", "fewestPieces", "()I"⟩ ⟨"BellTowerPlannerModel", "fewestPieces", "()I"⟩ ∈ gt := gt_in (List.mem_of_getElem? (i := 2011) (by decide +kernel)) (by decide +kernel)
theorem gw_2012 : Cond.code ⟨"BellTowerPlannerModel", "fewestPieces", "()I"⟩ prog_12_method_119_code 2 (some .int) ∈ gt := gt_in (List.mem_of_getElem? (i := 2012) (by decide +kernel)) (by decide +kernel)
theorem gw_2041 : Cond.methodLink "BellTowerPlannerLaw" 309 ⟨"BellTowerPlannerModel", "pieceOf", "(I)I"⟩ ∈ gt := gt_in (List.mem_of_getElem? (i := 2041) (by decide +kernel)) (by decide +kernel)
theorem gw_2042 : Cond.instanceMethod ⟨"BellTowerPlannerModel", "pieceOf", "(I)I"⟩ ∈ gt := gt_in (List.mem_of_getElem? (i := 2042) (by decide +kernel)) (by decide +kernel)
theorem gw_2043 : Cond.selects "BellTowerPlannerModel" ⟨"BellTowerPlannerModel", "pieceOf", "(I)I"⟩ ⟨"BellTowerPlannerModel", "pieceOf", "(I)I"⟩ ∈ gt := gt_in (List.mem_of_getElem? (i := 2043) (by decide +kernel)) (by decide +kernel)
theorem gw_2044 : Cond.code ⟨"BellTowerPlannerModel", "pieceOf", "(I)I"⟩ prog_12_method_120_code 2 (some .int) ∈ gt := gt_in (List.mem_of_getElem? (i := 2044) (by decide +kernel)) (by decide +kernel)
theorem gw_2045 : Cond.methodLink "BellTowerPlannerLaw" 312 ⟨"BellTowerPlannerModel", "waste", "()I"⟩ ∈ gt := gt_in (List.mem_of_getElem? (i := 2045) (by decide +kernel)) (by decide +kernel)
theorem gw_2046 : Cond.instanceMethod ⟨"BellTowerPlannerModel", "waste", "()I"⟩ ∈ gt := gt_in (List.mem_of_getElem? (i := 2046) (by decide +kernel)) (by decide +kernel)
theorem gw_2047 : Cond.selects "BellTowerPlannerModel" ⟨"BellTowerPlannerModel", "waste", "()I"⟩ ⟨"BellTowerPlannerModel", "waste", "()I"⟩ ∈ gt := gt_in (List.mem_of_getElem? (i := 2047) (by decide +kernel)) (by decide +kernel)
theorem gw_2048 : Cond.code ⟨"BellTowerPlannerModel", "waste", "()I"⟩ prog_12_method_121_code 3 (some .int) ∈ gt := gt_in (List.mem_of_getElem? (i := 2048) (by decide +kernel)) (by decide +kernel)
theorem gw_2049 : Cond.methodLink "BellTowerPlannerLaw" 315 ⟨"BellTowerPlannerModel", "extraPiece", "()I"⟩ ∈ gt := gt_in (List.mem_of_getElem? (i := 2049) (by decide +kernel)) (by decide +kernel)
theorem gw_2050 : Cond.instanceMethod ⟨"BellTowerPlannerModel", "extraPiece", "()I"⟩ ∈ gt := gt_in (List.mem_of_getElem? (i := 2050) (by decide +kernel)) (by decide +kernel)
theorem gw_2051 : Cond.selects "BellTowerPlannerModel" ⟨"BellTowerPlannerModel", "extraPiece", "()I"⟩ ⟨"BellTowerPlannerModel", "extraPiece", "()I"⟩ ∈ gt := gt_in (List.mem_of_getElem? (i := 2051) (by decide +kernel)) (by decide +kernel)
theorem gw_2052 : Cond.code ⟨"BellTowerPlannerModel", "extraPiece", "()I"⟩ prog_12_method_122_code 4 (some .int) ∈ gt := gt_in (List.mem_of_getElem? (i := 2052) (by decide +kernel)) (by decide +kernel)
theorem cal_X10_append : Cal M_X10_append := ⟨rfl, gw_1564, gw_118, ⟨by decide, by decide⟩⟩
theorem cai_X10_append : Cond.instanceMethod (mY M_X10_append) ∈ gt ∧ Cond.selects (mY M_X10_append).cls (mY M_X10_append) (mY M_X10_append) ∈ gt := ⟨gw_1562, gw_1563⟩
theorem cnt_X10_append : Cnt M_X10_append 5 := by unfold Cnt; decide +kernel
theorem cal_X10_beamOf : Cal M_X10_beamOf := ⟨rfl, gw_1730, gw_118, ⟨by decide, by decide⟩⟩
theorem cai_X10_beamOf : Cond.instanceMethod (mY M_X10_beamOf) ∈ gt ∧ Cond.selects (mY M_X10_beamOf).cls (mY M_X10_beamOf) (mY M_X10_beamOf) ∈ gt := ⟨gw_1728, gw_1729⟩
theorem cnt_X10_beamOf : Cnt M_X10_beamOf 1 := by unfold Cnt; decide +kernel
theorem cal_X10_bellAt : Cal M_X10_bellAt := ⟨rfl, gw_1742, gw_118, ⟨by decide, by decide⟩⟩
theorem cai_X10_bellAt : Cond.instanceMethod (mY M_X10_bellAt) ∈ gt ∧ Cond.selects (mY M_X10_bellAt).cls (mY M_X10_bellAt) (mY M_X10_bellAt) ∈ gt := ⟨gw_1740, gw_1741⟩
theorem cnt_X10_bellAt : Cnt M_X10_bellAt 2 := by unfold Cnt; decide +kernel
theorem cal_X10_bestPosition : Cal M_X10_bestPosition := ⟨rfl, gw_1754, gw_118, ⟨by decide, by decide⟩⟩
theorem cai_X10_bestPosition : Cond.instanceMethod (mY M_X10_bestPosition) ∈ gt ∧ Cond.selects (mY M_X10_bestPosition).cls (mY M_X10_bestPosition) (mY M_X10_bestPosition) ∈ gt := ⟨gw_1752, gw_1753⟩
theorem cnt_X10_bestPosition : Cnt M_X10_bestPosition 2 := by unfold Cnt; decide +kernel
theorem cal_X10_busiestMinute : Cal M_X10_busiestMinute := ⟨rfl, gw_1988, gw_118, ⟨by decide, by decide⟩⟩
theorem cai_X10_busiestMinute : Cond.instanceMethod (mY M_X10_busiestMinute) ∈ gt ∧ Cond.selects (mY M_X10_busiestMinute).cls (mY M_X10_busiestMinute) (mY M_X10_busiestMinute) ∈ gt := ⟨gw_1986, gw_1987⟩
theorem cnt_X10_busiestMinute : Cnt M_X10_busiestMinute 0 := by unfold Cnt; decide +kernel
theorem cal_X10_clearChime : Cal M_X10_clearChime := ⟨rfl, gw_1944, gw_118, ⟨by decide, by decide⟩⟩
theorem cai_X10_clearChime : Cond.instanceMethod (mY M_X10_clearChime) ∈ gt ∧ Cond.selects (mY M_X10_clearChime).cls (mY M_X10_clearChime) (mY M_X10_clearChime) ∈ gt := ⟨gw_1942, gw_1943⟩
theorem cnt_X10_clearChime : Cnt M_X10_clearChime 1 := by unfold Cnt; decide +kernel
theorem cal_X10_clearPlan : Cal M_X10_clearPlan := ⟨rfl, gw_1789, gw_118, ⟨by decide, by decide⟩⟩
theorem cai_X10_clearPlan : Cond.instanceMethod (mY M_X10_clearPlan) ∈ gt ∧ Cond.selects (mY M_X10_clearPlan).cls (mY M_X10_clearPlan) (mY M_X10_clearPlan) ∈ gt := ⟨gw_1787, gw_1788⟩
theorem cnt_X10_clearPlan : Cnt M_X10_clearPlan 1 := by unfold Cnt; decide +kernel
theorem cal_X10_collidingBells : Cal M_X10_collidingBells := ⟨rfl, gw_1910, gw_118, ⟨by decide, by decide⟩⟩
theorem cai_X10_collidingBells : Cond.instanceMethod (mY M_X10_collidingBells) ∈ gt ∧ Cond.selects (mY M_X10_collidingBells).cls (mY M_X10_collidingBells) (mY M_X10_collidingBells) ∈ gt := ⟨gw_1908, gw_1909⟩
theorem cnt_X10_collidingBells : Cnt M_X10_collidingBells 0 := by unfold Cnt; decide +kernel
theorem cal_X10_errorPosition : Cal M_X10_errorPosition := ⟨rfl, gw_1658, gw_118, ⟨by decide, by decide⟩⟩
theorem cai_X10_errorPosition : Cond.instanceMethod (mY M_X10_errorPosition) ∈ gt ∧ Cond.selects (mY M_X10_errorPosition).cls (mY M_X10_errorPosition) (mY M_X10_errorPosition) ∈ gt := ⟨gw_1656, gw_1657⟩
theorem cnt_X10_errorPosition : Cnt M_X10_errorPosition 0 := by unfold Cnt; decide +kernel
theorem cal_X10_extraPiece : Cal M_X10_extraPiece := ⟨rfl, gw_2052, gw_118, ⟨by decide, by decide⟩⟩
theorem cai_X10_extraPiece : Cond.instanceMethod (mY M_X10_extraPiece) ∈ gt ∧ Cond.selects (mY M_X10_extraPiece).cls (mY M_X10_extraPiece) (mY M_X10_extraPiece) ∈ gt := ⟨gw_2050, gw_2051⟩
theorem cnt_X10_extraPiece : Cnt M_X10_extraPiece 0 := by unfold Cnt; decide +kernel
theorem cal_X10_fewestPieces : Cal M_X10_fewestPieces := ⟨rfl, gw_2012, gw_118, ⟨by decide, by decide⟩⟩
theorem cai_X10_fewestPieces : Cond.instanceMethod (mY M_X10_fewestPieces) ∈ gt ∧ Cond.selects (mY M_X10_fewestPieces).cls (mY M_X10_fewestPieces) (mY M_X10_fewestPieces) ∈ gt := ⟨gw_2010, gw_2011⟩
theorem cnt_X10_fewestPieces : Cnt M_X10_fewestPieces 0 := by unfold Cnt; decide +kernel
theorem cal_X10_firstCollision : Cal M_X10_firstCollision := ⟨rfl, gw_1898, gw_118, ⟨by decide, by decide⟩⟩
theorem cai_X10_firstCollision : Cond.instanceMethod (mY M_X10_firstCollision) ∈ gt ∧ Cond.selects (mY M_X10_firstCollision).cls (mY M_X10_firstCollision) (mY M_X10_firstCollision) ∈ gt := ⟨gw_1896, gw_1897⟩
theorem cnt_X10_firstCollision : Cnt M_X10_firstCollision 0 := by unfold Cnt; decide +kernel
theorem cal_X10_freePositions : Cal M_X10_freePositions := ⟨rfl, gw_1746, gw_118, ⟨by decide, by decide⟩⟩
theorem cai_X10_freePositions : Cond.instanceMethod (mY M_X10_freePositions) ∈ gt ∧ Cond.selects (mY M_X10_freePositions).cls (mY M_X10_freePositions) (mY M_X10_freePositions) ∈ gt := ⟨gw_1744, gw_1745⟩
theorem cnt_X10_freePositions : Cnt M_X10_freePositions 2 := by unfold Cnt; decide +kernel
theorem cal_X10_gap : Cal M_X10_gap := ⟨rfl, gw_1886, gw_118, ⟨by decide, by decide⟩⟩
theorem cai_X10_gap : Cond.instanceMethod (mY M_X10_gap) ∈ gt ∧ Cond.selects (mY M_X10_gap).cls (mY M_X10_gap) (mY M_X10_gap) ∈ gt := ⟨gw_1884, gw_1885⟩
theorem cnt_X10_gap : Cnt M_X10_gap 3 := by unfold Cnt; decide +kernel
theorem cal_X10_hang : Cal M_X10_hang := ⟨rfl, gw_1670, gw_118, ⟨by decide, by decide⟩⟩
theorem cai_X10_hang : Cond.instanceMethod (mY M_X10_hang) ∈ gt ∧ Cond.selects (mY M_X10_hang).cls (mY M_X10_hang) (mY M_X10_hang) ∈ gt := ⟨gw_1668, gw_1669⟩
theorem cnt_X10_hang : Cnt M_X10_hang 3 := by unfold Cnt; decide +kernel
theorem cal_X10_isQuiet : Cal M_X10_isQuiet := ⟨rfl, gw_1952, gw_118, ⟨by decide, by decide⟩⟩
theorem cai_X10_isQuiet : Cond.instanceMethod (mY M_X10_isQuiet) ∈ gt ∧ Cond.selects (mY M_X10_isQuiet).cls (mY M_X10_isQuiet) (mY M_X10_isQuiet) ∈ gt := ⟨gw_1950, gw_1951⟩
theorem cnt_X10_isQuiet : Cnt M_X10_isQuiet 1 := by unfold Cnt; decide +kernel
theorem cal_X10_leastDelay : Cal M_X10_leastDelay := ⟨rfl, gw_1996, gw_118, ⟨by decide, by decide⟩⟩
theorem cai_X10_leastDelay : Cond.instanceMethod (mY M_X10_leastDelay) ∈ gt ∧ Cond.selects (mY M_X10_leastDelay).cls (mY M_X10_leastDelay) (mY M_X10_leastDelay) ∈ gt := ⟨gw_1994, gw_1995⟩
theorem cnt_X10_leastDelay : Cnt M_X10_leastDelay 1 := by unfold Cnt; decide +kernel
theorem cal_X10_load : Cal M_X10_load := ⟨rfl, gw_1579, gw_118, ⟨by decide, by decide⟩⟩
theorem cai_X10_load : Cond.instanceMethod (mY M_X10_load) ∈ gt ∧ Cond.selects (mY M_X10_load).cls (mY M_X10_load) (mY M_X10_load) ∈ gt := ⟨gw_1577, gw_1578⟩
theorem cnt_X10_load : Cnt M_X10_load 0 := by unfold Cnt; decide +kernel
theorem cal_X10_longestLoud : Cal M_X10_longestLoud := ⟨rfl, gw_1964, gw_118, ⟨by decide, by decide⟩⟩
theorem cai_X10_longestLoud : Cond.instanceMethod (mY M_X10_longestLoud) ∈ gt ∧ Cond.selects (mY M_X10_longestLoud).cls (mY M_X10_longestLoud) (mY M_X10_longestLoud) ∈ gt := ⟨gw_1962, gw_1963⟩
theorem cnt_X10_longestLoud : Cnt M_X10_longestLoud 0 := by unfold Cnt; decide +kernel
theorem cal_X10_mirroredBells : Cal M_X10_mirroredBells := ⟨rfl, gw_1777, gw_118, ⟨by decide, by decide⟩⟩
theorem cai_X10_mirroredBells : Cond.instanceMethod (mY M_X10_mirroredBells) ∈ gt ∧ Cond.selects (mY M_X10_mirroredBells).cls (mY M_X10_mirroredBells) (mY M_X10_mirroredBells) ∈ gt := ⟨gw_1775, gw_1776⟩
theorem cnt_X10_mirroredBells : Cnt M_X10_mirroredBells 1 := by unfold Cnt; decide +kernel
theorem cal_X10_mirroredTorque : Cal M_X10_mirroredTorque := ⟨rfl, gw_1758, gw_118, ⟨by decide, by decide⟩⟩
theorem cai_X10_mirroredTorque : Cond.instanceMethod (mY M_X10_mirroredTorque) ∈ gt ∧ Cond.selects (mY M_X10_mirroredTorque).cls (mY M_X10_mirroredTorque) (mY M_X10_mirroredTorque) ∈ gt := ⟨gw_1756, gw_1757⟩
theorem cnt_X10_mirroredTorque : Cnt M_X10_mirroredTorque 1 := by unfold Cnt; decide +kernel
theorem cal_X10_nextSound : Cal M_X10_nextSound := ⟨rfl, gw_1984, gw_118, ⟨by decide, by decide⟩⟩
theorem cai_X10_nextSound : Cond.instanceMethod (mY M_X10_nextSound) ∈ gt ∧ Cond.selects (mY M_X10_nextSound).cls (mY M_X10_nextSound) (mY M_X10_nextSound) ∈ gt := ⟨gw_1982, gw_1983⟩
theorem cnt_X10_nextSound : Cnt M_X10_nextSound 1 := by unfold Cnt; decide +kernel
theorem cal_X10_offset : Cal M_X10_offset := ⟨rfl, gw_1873, gw_118, ⟨by decide, by decide⟩⟩
theorem cai_X10_offset : Cond.instanceMethod (mY M_X10_offset) ∈ gt ∧ Cond.selects (mY M_X10_offset).cls (mY M_X10_offset) (mY M_X10_offset) ∈ gt := ⟨gw_1871, gw_1872⟩
theorem cnt_X10_offset : Cnt M_X10_offset 2 := by unfold Cnt; decide +kernel
theorem cal_X10_pieceOf : Cal M_X10_pieceOf := ⟨rfl, gw_2044, gw_118, ⟨by decide, by decide⟩⟩
theorem cai_X10_pieceOf : Cond.instanceMethod (mY M_X10_pieceOf) ∈ gt ∧ Cond.selects (mY M_X10_pieceOf).cls (mY M_X10_pieceOf) (mY M_X10_pieceOf) ∈ gt := ⟨gw_2042, gw_2043⟩
theorem cnt_X10_pieceOf : Cnt M_X10_pieceOf 1 := by unfold Cnt; decide +kernel
theorem cal_X10_planConflicts : Cal M_X10_planConflicts := ⟨rfl, gw_1793, gw_118, ⟨by decide, by decide⟩⟩
theorem cai_X10_planConflicts : Cond.instanceMethod (mY M_X10_planConflicts) ∈ gt ∧ Cond.selects (mY M_X10_planConflicts).cls (mY M_X10_planConflicts) (mY M_X10_planConflicts) ∈ gt := ⟨gw_1791, gw_1792⟩
theorem cnt_X10_planConflicts : Cnt M_X10_planConflicts 0 := by unfold Cnt; decide +kernel
theorem cal_X10_planStep : Cal M_X10_planStep := ⟨rfl, gw_1852, gw_118, ⟨by decide, by decide⟩⟩
theorem cai_X10_planStep : Cond.instanceMethod (mY M_X10_planStep) ∈ gt ∧ Cond.selects (mY M_X10_planStep).cls (mY M_X10_planStep) (mY M_X10_planStep) ∈ gt := ⟨gw_1850, gw_1851⟩
theorem cnt_X10_planStep : Cnt M_X10_planStep 1 := by unfold Cnt; decide +kernel
theorem cal_X10_planUnbalanced : Cal M_X10_planUnbalanced := ⟨rfl, gw_1813, gw_118, ⟨by decide, by decide⟩⟩
theorem cai_X10_planUnbalanced : Cond.instanceMethod (mY M_X10_planUnbalanced) ∈ gt ∧ Cond.selects (mY M_X10_planUnbalanced).cls (mY M_X10_planUnbalanced) (mY M_X10_planUnbalanced) ∈ gt := ⟨gw_1811, gw_1812⟩
theorem cnt_X10_planUnbalanced : Cnt M_X10_planUnbalanced 0 := by unfold Cnt; decide +kernel
theorem cal_X10_positionOf : Cal M_X10_positionOf := ⟨rfl, gw_1734, gw_118, ⟨by decide, by decide⟩⟩
theorem cai_X10_positionOf : Cond.instanceMethod (mY M_X10_positionOf) ∈ gt ∧ Cond.selects (mY M_X10_positionOf).cls (mY M_X10_positionOf) (mY M_X10_positionOf) ∈ gt := ⟨gw_1732, gw_1733⟩
theorem cnt_X10_positionOf : Cnt M_X10_positionOf 1 := by unfold Cnt; decide +kernel
theorem cal_X10_quietMinutes : Cal M_X10_quietMinutes := ⟨rfl, gw_1960, gw_118, ⟨by decide, by decide⟩⟩
theorem cai_X10_quietMinutes : Cond.instanceMethod (mY M_X10_quietMinutes) ∈ gt ∧ Cond.selects (mY M_X10_quietMinutes).cls (mY M_X10_quietMinutes) (mY M_X10_quietMinutes) ∈ gt := ⟨gw_1958, gw_1959⟩
theorem cnt_X10_quietMinutes : Cnt M_X10_quietMinutes 0 := by unfold Cnt; decide +kernel
theorem cal_X10_ropeLength : Cal M_X10_ropeLength := ⟨rfl, gw_2004, gw_118, ⟨by decide, by decide⟩⟩
theorem cai_X10_ropeLength : Cond.instanceMethod (mY M_X10_ropeLength) ∈ gt ∧ Cond.selects (mY M_X10_ropeLength).cls (mY M_X10_ropeLength) (mY M_X10_ropeLength) ∈ gt := ⟨gw_2002, gw_2003⟩
theorem cnt_X10_ropeLength : Cnt M_X10_ropeLength 1 := by unfold Cnt; decide +kernel
theorem cal_X10_safeAmplitude : Cal M_X10_safeAmplitude := ⟨rfl, gw_1922, gw_118, ⟨by decide, by decide⟩⟩
theorem cai_X10_safeAmplitude : Cond.instanceMethod (mY M_X10_safeAmplitude) ∈ gt ∧ Cond.selects (mY M_X10_safeAmplitude).cls (mY M_X10_safeAmplitude) (mY M_X10_safeAmplitude) ∈ gt := ⟨gw_1920, gw_1921⟩
theorem cnt_X10_safeAmplitude : Cnt M_X10_safeAmplitude 1 := by unfold Cnt; decide +kernel
theorem cal_X10_safeStart : Cal M_X10_safeStart := ⟨rfl, gw_1914, gw_118, ⟨by decide, by decide⟩⟩
theorem cai_X10_safeStart : Cond.instanceMethod (mY M_X10_safeStart) ∈ gt ∧ Cond.selects (mY M_X10_safeStart).cls (mY M_X10_safeStart) (mY M_X10_safeStart) ∈ gt := ⟨gw_1912, gw_1913⟩
theorem cnt_X10_safeStart : Cnt M_X10_safeStart 2 := by unfold Cnt; decide +kernel
theorem cal_X10_setChime : Cal M_X10_setChime := ⟨rfl, gw_1938, gw_118, ⟨by decide, by decide⟩⟩
theorem cai_X10_setChime : Cond.instanceMethod (mY M_X10_setChime) ∈ gt ∧ Cond.selects (mY M_X10_setChime).cls (mY M_X10_setChime) (mY M_X10_setChime) ∈ gt := ⟨gw_1936, gw_1937⟩
theorem cnt_X10_setChime : Cnt M_X10_setChime 3 := by unfold Cnt; decide +kernel
theorem cal_X10_setPlan : Cal M_X10_setPlan := ⟨rfl, gw_1781, gw_118, ⟨by decide, by decide⟩⟩
theorem cai_X10_setPlan : Cond.instanceMethod (mY M_X10_setPlan) ∈ gt ∧ Cond.selects (mY M_X10_setPlan).cls (mY M_X10_setPlan) (mY M_X10_setPlan) ∈ gt := ⟨gw_1779, gw_1780⟩
theorem cnt_X10_setPlan : Cnt M_X10_setPlan 3 := by unfold Cnt; decide +kernel
theorem cal_X10_shift : Cal M_X10_shift := ⟨rfl, gw_1726, gw_118, ⟨by decide, by decide⟩⟩
theorem cai_X10_shift : Cond.instanceMethod (mY M_X10_shift) ∈ gt ∧ Cond.selects (mY M_X10_shift).cls (mY M_X10_shift) (mY M_X10_shift) ∈ gt := ⟨gw_1724, gw_1725⟩
theorem cnt_X10_shift : Cnt M_X10_shift 2 := by unfold Cnt; decide +kernel
theorem cal_X10_soundTogether : Cal M_X10_soundTogether := ⟨rfl, gw_1992, gw_118, ⟨by decide, by decide⟩⟩
theorem cai_X10_soundTogether : Cond.instanceMethod (mY M_X10_soundTogether) ∈ gt ∧ Cond.selects (mY M_X10_soundTogether).cls (mY M_X10_soundTogether) (mY M_X10_soundTogether) ∈ gt := ⟨gw_1990, gw_1991⟩
theorem cnt_X10_soundTogether : Cnt M_X10_soundTogether 2 := by unfold Cnt; decide +kernel
theorem cal_X10_soundsAt : Cal M_X10_soundsAt := ⟨rfl, gw_1968, gw_118, ⟨by decide, by decide⟩⟩
theorem cai_X10_soundsAt : Cond.instanceMethod (mY M_X10_soundsAt) ∈ gt ∧ Cond.selects (mY M_X10_soundsAt).cls (mY M_X10_soundsAt) (mY M_X10_soundsAt) ∈ gt := ⟨gw_1966, gw_1967⟩
theorem cnt_X10_soundsAt : Cnt M_X10_soundsAt 1 := by unfold Cnt; decide +kernel
theorem cal_X10_soundsPerDay : Cal M_X10_soundsPerDay := ⟨rfl, gw_1980, gw_118, ⟨by decide, by decide⟩⟩
theorem cai_X10_soundsPerDay : Cond.instanceMethod (mY M_X10_soundsPerDay) ∈ gt ∧ Cond.selects (mY M_X10_soundsPerDay).cls (mY M_X10_soundsPerDay) (mY M_X10_soundsPerDay) ∈ gt := ⟨gw_1978, gw_1979⟩
theorem cnt_X10_soundsPerDay : Cnt M_X10_soundsPerDay 1 := by unfold Cnt; decide +kernel
theorem cal_X10_startSwing : Cal M_X10_startSwing := ⟨rfl, gw_1856, gw_118, ⟨by decide, by decide⟩⟩
theorem cai_X10_startSwing : Cond.instanceMethod (mY M_X10_startSwing) ∈ gt ∧ Cond.selects (mY M_X10_startSwing).cls (mY M_X10_startSwing) (mY M_X10_startSwing) ∈ gt := ⟨gw_1854, gw_1855⟩
theorem cnt_X10_startSwing : Cnt M_X10_startSwing 3 := by unfold Cnt; decide +kernel
theorem cal_X10_stepsToPlan : Cal M_X10_stepsToPlan := ⟨rfl, gw_1821, gw_118, ⟨by decide, by decide⟩⟩
theorem cai_X10_stepsToPlan : Cond.instanceMethod (mY M_X10_stepsToPlan) ∈ gt ∧ Cond.selects (mY M_X10_stepsToPlan).cls (mY M_X10_stepsToPlan) (mY M_X10_stepsToPlan) ∈ gt := ⟨gw_1819, gw_1820⟩
theorem cnt_X10_stepsToPlan : Cnt M_X10_stepsToPlan 0 := by unfold Cnt; decide +kernel
theorem cal_X10_stopSwing : Cal M_X10_stopSwing := ⟨rfl, gw_1869, gw_118, ⟨by decide, by decide⟩⟩
theorem cai_X10_stopSwing : Cond.instanceMethod (mY M_X10_stopSwing) ∈ gt ∧ Cond.selects (mY M_X10_stopSwing).cls (mY M_X10_stopSwing) (mY M_X10_stopSwing) ∈ gt := ⟨gw_1867, gw_1868⟩
theorem cnt_X10_stopSwing : Cnt M_X10_stopSwing 1 := by unfold Cnt; decide +kernel
theorem cal_X10_strikeTogether : Cal M_X10_strikeTogether := ⟨rfl, gw_1934, gw_118, ⟨by decide, by decide⟩⟩
theorem cai_X10_strikeTogether : Cond.instanceMethod (mY M_X10_strikeTogether) ∈ gt ∧ Cond.selects (mY M_X10_strikeTogether).cls (mY M_X10_strikeTogether) (mY M_X10_strikeTogether) ∈ gt := ⟨gw_1932, gw_1933⟩
theorem cnt_X10_strikeTogether : Cnt M_X10_strikeTogether 2 := by unfold Cnt; decide +kernel
theorem cal_X10_strikes : Cal M_X10_strikes := ⟨rfl, gw_1926, gw_118, ⟨by decide, by decide⟩⟩
theorem cai_X10_strikes : Cond.instanceMethod (mY M_X10_strikes) ∈ gt ∧ Cond.selects (mY M_X10_strikes).cls (mY M_X10_strikes) (mY M_X10_strikes) ∈ gt := ⟨gw_1924, gw_1925⟩
theorem cnt_X10_strikes : Cnt M_X10_strikes 3 := by unfold Cnt; decide +kernel
theorem cal_X10_takeDown : Cal M_X10_takeDown := ⟨rfl, gw_1722, gw_118, ⟨by decide, by decide⟩⟩
theorem cai_X10_takeDown : Cond.instanceMethod (mY M_X10_takeDown) ∈ gt ∧ Cond.selects (mY M_X10_takeDown).cls (mY M_X10_takeDown) (mY M_X10_takeDown) ∈ gt := ⟨gw_1720, gw_1721⟩
theorem cnt_X10_takeDown : Cnt M_X10_takeDown 1 := by unfold Cnt; decide +kernel
theorem cal_X10_thrown : Cal M_X10_thrown := ⟨rfl, gw_1560, gw_118, ⟨by decide, by decide⟩⟩
theorem cai_X10_thrown : Cond.instanceMethod (mY M_X10_thrown) ∈ gt ∧ Cond.selects (mY M_X10_thrown).cls (mY M_X10_thrown) (mY M_X10_thrown) ∈ gt := ⟨gw_1558, gw_1559⟩
theorem cnt_X10_thrown : Cnt M_X10_thrown 0 := by unfold Cnt; decide +kernel
theorem cal_X10_torque : Cal M_X10_torque := ⟨rfl, gw_1738, gw_118, ⟨by decide, by decide⟩⟩
theorem cai_X10_torque : Cond.instanceMethod (mY M_X10_torque) ∈ gt ∧ Cond.selects (mY M_X10_torque).cls (mY M_X10_torque) (mY M_X10_torque) ∈ gt := ⟨gw_1736, gw_1737⟩
theorem cnt_X10_torque : Cnt M_X10_torque 1 := by unfold Cnt; decide +kernel
theorem cal_X10_truncate : Cal M_X10_truncate := ⟨rfl, gw_1572, gw_118, ⟨by decide, by decide⟩⟩
theorem cai_X10_truncate : Cond.instanceMethod (mY M_X10_truncate) ∈ gt ∧ Cond.selects (mY M_X10_truncate).cls (mY M_X10_truncate) (mY M_X10_truncate) ∈ gt := ⟨gw_1570, gw_1571⟩
theorem cnt_X10_truncate : Cnt M_X10_truncate 1 := by unfold Cnt; decide +kernel
theorem cal_X10_undo : Cal M_X10_undo := ⟨rfl, gw_1662, gw_118, ⟨by decide, by decide⟩⟩
theorem cai_X10_undo : Cond.instanceMethod (mY M_X10_undo) ∈ gt ∧ Cond.selects (mY M_X10_undo).cls (mY M_X10_undo) (mY M_X10_undo) ∈ gt := ⟨gw_1660, gw_1661⟩
theorem cnt_X10_undo : Cnt M_X10_undo 0 := by unfold Cnt; decide +kernel
theorem cal_X10_waste : Cal M_X10_waste := ⟨rfl, gw_2048, gw_118, ⟨by decide, by decide⟩⟩
theorem cai_X10_waste : Cond.instanceMethod (mY M_X10_waste) ∈ gt ∧ Cond.selects (mY M_X10_waste).cls (mY M_X10_waste) (mY M_X10_waste) ∈ gt := ⟨gw_2046, gw_2047⟩
theorem cnt_X10_waste : Cnt M_X10_waste 0 := by unfold Cnt; decide +kernel
theorem cal_X9_errorPosition : Cal M_X9_errorPosition := ⟨rfl, gw_619, gw_108, ⟨by decide, by decide⟩⟩
theorem cai_X9_errorPosition : Cond.instanceMethod (mY M_X9_errorPosition) ∈ gt ∧ Cond.selects (mY M_X9_errorPosition).cls (mY M_X9_errorPosition) (mY M_X9_errorPosition) ∈ gt := ⟨gw_617, gw_618⟩
theorem cnt_X9_errorPosition : Cnt M_X9_errorPosition 0 := by unfold Cnt; decide +kernel
theorem cal_X9_load : Cal M_X9_load := ⟨rfl, gw_466, gw_108, ⟨by decide, by decide⟩⟩
theorem cai_X9_load : Cond.instanceMethod (mY M_X9_load) ∈ gt ∧ Cond.selects (mY M_X9_load).cls (mY M_X9_load) (mY M_X9_load) ∈ gt := ⟨gw_464, gw_465⟩
theorem cnt_X9_load : Cnt M_X9_load 0 := by unfold Cnt; decide +kernel
theorem cnt_L_append : Cnt M_L_append 7 := by unfold Cnt; decide +kernel
theorem cnt_L_beamOf : Cnt M_L_beamOf 3 := by unfold Cnt; decide +kernel
theorem cnt_L_bellAt : Cnt M_L_bellAt 4 := by unfold Cnt; decide +kernel
theorem cnt_L_bestPosition : Cnt M_L_bestPosition 4 := by unfold Cnt; decide +kernel
theorem cnt_L_busiestMinute : Cnt M_L_busiestMinute 2 := by unfold Cnt; decide +kernel
theorem cnt_L_clearChime : Cnt M_L_clearChime 3 := by unfold Cnt; decide +kernel
theorem cnt_L_clearPlan : Cnt M_L_clearPlan 3 := by unfold Cnt; decide +kernel
theorem cnt_L_collidingBells : Cnt M_L_collidingBells 2 := by unfold Cnt; decide +kernel
theorem cnt_L_extraPiece : Cnt M_L_extraPiece 2 := by unfold Cnt; decide +kernel
theorem cnt_L_fewestPieces : Cnt M_L_fewestPieces 2 := by unfold Cnt; decide +kernel
theorem cnt_L_firstCollision : Cnt M_L_firstCollision 2 := by unfold Cnt; decide +kernel
theorem cnt_L_freePositions : Cnt M_L_freePositions 4 := by unfold Cnt; decide +kernel
theorem cnt_L_gap : Cnt M_L_gap 5 := by unfold Cnt; decide +kernel
theorem cnt_L_hang : Cnt M_L_hang 5 := by unfold Cnt; decide +kernel
theorem cnt_L_isQuiet : Cnt M_L_isQuiet 3 := by unfold Cnt; decide +kernel
theorem cnt_L_leastDelay : Cnt M_L_leastDelay 3 := by unfold Cnt; decide +kernel
theorem cnt_L_longestLoud : Cnt M_L_longestLoud 2 := by unfold Cnt; decide +kernel
theorem cnt_L_mirroredBells : Cnt M_L_mirroredBells 3 := by unfold Cnt; decide +kernel
theorem cnt_L_mirroredTorque : Cnt M_L_mirroredTorque 3 := by unfold Cnt; decide +kernel
theorem cnt_L_nextSound : Cnt M_L_nextSound 3 := by unfold Cnt; decide +kernel
theorem cnt_L_offset : Cnt M_L_offset 4 := by unfold Cnt; decide +kernel
theorem cnt_L_pieceOf : Cnt M_L_pieceOf 3 := by unfold Cnt; decide +kernel
theorem cnt_L_planConflicts : Cnt M_L_planConflicts 2 := by unfold Cnt; decide +kernel
theorem cnt_L_planStep : Cnt M_L_planStep 3 := by unfold Cnt; decide +kernel
theorem cnt_L_planUnbalanced : Cnt M_L_planUnbalanced 2 := by unfold Cnt; decide +kernel
theorem cnt_L_positionOf : Cnt M_L_positionOf 3 := by unfold Cnt; decide +kernel
theorem cnt_L_quietMinutes : Cnt M_L_quietMinutes 2 := by unfold Cnt; decide +kernel
theorem cnt_L_ropeLength : Cnt M_L_ropeLength 3 := by unfold Cnt; decide +kernel
theorem cnt_L_safeAmplitude : Cnt M_L_safeAmplitude 3 := by unfold Cnt; decide +kernel
theorem cnt_L_safeStart : Cnt M_L_safeStart 4 := by unfold Cnt; decide +kernel
theorem cnt_L_setChime : Cnt M_L_setChime 5 := by unfold Cnt; decide +kernel
theorem cnt_L_setPlan : Cnt M_L_setPlan 5 := by unfold Cnt; decide +kernel
theorem cnt_L_shift : Cnt M_L_shift 4 := by unfold Cnt; decide +kernel
theorem cnt_L_soundTogether : Cnt M_L_soundTogether 4 := by unfold Cnt; decide +kernel
theorem cnt_L_soundsAt : Cnt M_L_soundsAt 3 := by unfold Cnt; decide +kernel
theorem cnt_L_soundsPerDay : Cnt M_L_soundsPerDay 3 := by unfold Cnt; decide +kernel
theorem cnt_L_startSwing : Cnt M_L_startSwing 5 := by unfold Cnt; decide +kernel
theorem cnt_L_stepsToPlan : Cnt M_L_stepsToPlan 2 := by unfold Cnt; decide +kernel
theorem cnt_L_stopSwing : Cnt M_L_stopSwing 3 := by unfold Cnt; decide +kernel
theorem cnt_L_strikeTogether : Cnt M_L_strikeTogether 4 := by unfold Cnt; decide +kernel
theorem cnt_L_strikes : Cnt M_L_strikes 5 := by unfold Cnt; decide +kernel
theorem cnt_L_takeDown : Cnt M_L_takeDown 3 := by unfold Cnt; decide +kernel
theorem cnt_L_torque : Cnt M_L_torque 3 := by unfold Cnt; decide +kernel
theorem cnt_L_truncate : Cnt M_L_truncate 3 := by unfold Cnt; decide +kernel
theorem cnt_L_undo : Cnt M_L_undo 2 := by unfold Cnt; decide +kernel
theorem cnt_L_waste : Cnt M_L_waste 2 := by unfold Cnt; decide +kernel
theorem dL_law_248 : decode cL_law 248 = .ok (.aload_n 1, 1) := by decide +kernel
theorem dL_law_249 : decode cL_law 249 = .ok (.aload_n 0, 1) := by decide +kernel
theorem dL_law_250 : decode cL_law 250 = .ok (.iload 4, 2) := by decide +kernel
theorem dL_law_252 : decode cL_law 252 = .ok (.iconst 1, 1) := by decide +kernel
theorem dL_law_253 : decode cL_law 253 = .ok (.iadd, 1) := by decide +kernel
theorem dL_law_254 : decode cL_law 254 = .ok (.iaload, 1) := by decide +kernel
theorem dL_law_255 : decode cL_law 255 = .ok (.aload_n 0, 1) := by decide +kernel
theorem dL_law_256 : decode cL_law 256 = .ok (.iload 4, 2) := by decide +kernel
theorem dL_law_258 : decode cL_law 258 = .ok (.iconst 2, 1) := by decide +kernel
theorem dL_law_259 : decode cL_law 259 = .ok (.iadd, 1) := by decide +kernel
theorem dL_law_260 : decode cL_law 260 = .ok (.iaload, 1) := by decide +kernel
theorem dL_law_261 : decode cL_law 261 = .ok (.aload_n 0, 1) := by decide +kernel
theorem dL_law_262 : decode cL_law 262 = .ok (.iload 4, 2) := by decide +kernel
theorem dL_law_264 : decode cL_law 264 = .ok (.iconst 3, 1) := by decide +kernel
theorem dL_law_265 : decode cL_law 265 = .ok (.iadd, 1) := by decide +kernel
theorem dL_law_266 : decode cL_law 266 = .ok (.iaload, 1) := by decide +kernel
theorem dL_law_267 : decode cL_law 267 = .ok (.aload_n 0, 1) := by decide +kernel
theorem dL_law_268 : decode cL_law 268 = .ok (.iload 4, 2) := by decide +kernel
theorem dL_law_270 : decode cL_law 270 = .ok (.iconst 4, 1) := by decide +kernel
theorem dL_law_271 : decode cL_law 271 = .ok (.iadd, 1) := by decide +kernel
theorem dL_law_272 : decode cL_law 272 = .ok (.iaload, 1) := by decide +kernel
theorem dL_law_273 : decode cL_law 273 = .ok (.aload_n 0, 1) := by decide +kernel
theorem dL_law_274 : decode cL_law 274 = .ok (.iload 4, 2) := by decide +kernel
theorem dL_law_276 : decode cL_law 276 = .ok (.iconst 5, 1) := by decide +kernel
theorem dL_law_277 : decode cL_law 277 = .ok (.iadd, 1) := by decide +kernel
theorem dL_law_278 : decode cL_law 278 = .ok (.iaload, 1) := by decide +kernel
theorem dL_law_279 : decode cL_law 279 = .ok (.aload_n 3, 1) := by decide +kernel
theorem dL_law_280 : decode cL_law 280 = .ok (.invokestatic 163, 3) := by decide +kernel
theorem dL_law_283 : decode cL_law 283 = .ok (.istore 5, 2) := by decide +kernel
theorem dL_law_285 : decode cL_law 285 = .ok (.aload_n 2, 1) := by decide +kernel
theorem dL_law_286 : decode cL_law 286 = .ok (.aload_n 0, 1) := by decide +kernel
theorem dL_law_287 : decode cL_law 287 = .ok (.iload 4, 2) := by decide +kernel
theorem dL_law_289 : decode cL_law 289 = .ok (.iconst 1, 1) := by decide +kernel
theorem dL_law_290 : decode cL_law 290 = .ok (.iadd, 1) := by decide +kernel
theorem dL_law_291 : decode cL_law 291 = .ok (.iaload, 1) := by decide +kernel
theorem dL_law_292 : decode cL_law 292 = .ok (.aload_n 0, 1) := by decide +kernel
theorem dL_law_293 : decode cL_law 293 = .ok (.iload 4, 2) := by decide +kernel
theorem dL_law_295 : decode cL_law 295 = .ok (.iconst 2, 1) := by decide +kernel
theorem dL_law_296 : decode cL_law 296 = .ok (.iadd, 1) := by decide +kernel
theorem dL_law_297 : decode cL_law 297 = .ok (.iaload, 1) := by decide +kernel
theorem dL_law_298 : decode cL_law 298 = .ok (.aload_n 0, 1) := by decide +kernel
theorem dL_law_299 : decode cL_law 299 = .ok (.iload 4, 2) := by decide +kernel
theorem dL_law_301 : decode cL_law 301 = .ok (.iconst 3, 1) := by decide +kernel
theorem dL_law_302 : decode cL_law 302 = .ok (.iadd, 1) := by decide +kernel
theorem dL_law_303 : decode cL_law 303 = .ok (.iaload, 1) := by decide +kernel
theorem dL_law_304 : decode cL_law 304 = .ok (.aload_n 0, 1) := by decide +kernel
theorem dL_law_305 : decode cL_law 305 = .ok (.iload 4, 2) := by decide +kernel
theorem dL_law_307 : decode cL_law 307 = .ok (.iconst 4, 1) := by decide +kernel
theorem dL_law_308 : decode cL_law 308 = .ok (.iadd, 1) := by decide +kernel
theorem dL_law_309 : decode cL_law 309 = .ok (.iaload, 1) := by decide +kernel
theorem dL_law_310 : decode cL_law 310 = .ok (.aload_n 0, 1) := by decide +kernel
theorem dL_law_311 : decode cL_law 311 = .ok (.iload 4, 2) := by decide +kernel
theorem dL_law_313 : decode cL_law 313 = .ok (.iconst 5, 1) := by decide +kernel
theorem dL_law_314 : decode cL_law 314 = .ok (.iadd, 1) := by decide +kernel
theorem dL_law_315 : decode cL_law 315 = .ok (.iaload, 1) := by decide +kernel
theorem dL_law_316 : decode cL_law 316 = .ok (.invokevirtual 168, 3) := by decide +kernel
theorem dL_law_319 : decode cL_law 319 = .ok (.istore 6, 2) := by decide +kernel
theorem dL_law_321 : decode cL_law 321 = .ok (.aload_n 2, 1) := by decide +kernel
theorem dL_law_322 : decode cL_law 322 = .ok (.invokevirtual 169, 3) := by decide +kernel
theorem dL_law_325 : decode cL_law 325 = .ok (.iload 5, 2) := by decide +kernel
theorem dL_law_327 : decode cL_law 327 = .ok (.if_icmp .eq 5, 3) := by decide +kernel
theorem dL_law_332 : decode cL_law 332 = .ok (.iload 5, 2) := by decide +kernel
theorem dL_law_334 : decode cL_law 334 = .ok (.ifCond .ne 15, 3) := by decide +kernel
theorem dL_law_349 : decode cL_law 349 = .ok (.goto 2652, 3) := by decide +kernel
theorem dL_law_3001 : decode cL_law 3001 = .ok (.iinc 4 6, 3) := by decide +kernel
theorem dL_law_3004 : decode cL_law 3004 = .ok (.goto (-2981), 3) := by decide +kernel
theorem dL_law_337 : decode cL_law 337 = .ok (.aload_n 3, 1) := by decide +kernel
theorem dL_law_338 : decode cL_law 338 = .ok (.iconst 0, 1) := by decide +kernel
theorem dL_law_339 : decode cL_law 339 = .ok (.laload, 1) := by decide +kernel
theorem dL_law_340 : decode cL_law 340 = .ok (.iload 6, 2) := by decide +kernel
theorem dL_law_342 : decode cL_law 342 = .ok (.i2l, 1) := by decide +kernel
theorem dL_law_343 : decode cL_law 343 = .ok (.lcmp, 1) := by decide +kernel
theorem dL_law_344 : decode cL_law 344 = .ok (.ifCond .eq 5, 3) := by decide +kernel
theorem dL_law_352 : decode cL_law 352 = .ok (.aload_n 1, 1) := by decide +kernel
theorem dL_law_353 : decode cL_law 353 = .ok (.aload_n 0, 1) := by decide +kernel
theorem dL_law_354 : decode cL_law 354 = .ok (.iload 4, 2) := by decide +kernel
theorem dL_law_356 : decode cL_law 356 = .ok (.iconst 1, 1) := by decide +kernel
theorem dL_law_357 : decode cL_law 357 = .ok (.iadd, 1) := by decide +kernel
theorem dL_law_358 : decode cL_law 358 = .ok (.iaload, 1) := by decide +kernel
theorem dL_law_359 : decode cL_law 359 = .ok (.aload_n 3, 1) := by decide +kernel
theorem dL_law_360 : decode cL_law 360 = .ok (.invokestatic 172, 3) := by decide +kernel
theorem dL_law_363 : decode cL_law 363 = .ok (.istore 5, 2) := by decide +kernel
theorem dL_law_365 : decode cL_law 365 = .ok (.aload_n 2, 1) := by decide +kernel
theorem dL_law_366 : decode cL_law 366 = .ok (.aload_n 0, 1) := by decide +kernel
theorem dL_law_367 : decode cL_law 367 = .ok (.iload 4, 2) := by decide +kernel
theorem dL_law_369 : decode cL_law 369 = .ok (.iconst 1, 1) := by decide +kernel
theorem dL_law_370 : decode cL_law 370 = .ok (.iadd, 1) := by decide +kernel
theorem dL_law_371 : decode cL_law 371 = .ok (.iaload, 1) := by decide +kernel
theorem dL_law_372 : decode cL_law 372 = .ok (.invokevirtual 175, 3) := by decide +kernel
theorem dL_law_375 : decode cL_law 375 = .ok (.istore 6, 2) := by decide +kernel
theorem dL_law_377 : decode cL_law 377 = .ok (.aload_n 2, 1) := by decide +kernel
theorem dL_law_378 : decode cL_law 378 = .ok (.invokevirtual 169, 3) := by decide +kernel
theorem dL_law_381 : decode cL_law 381 = .ok (.iload 5, 2) := by decide +kernel
theorem dL_law_383 : decode cL_law 383 = .ok (.if_icmp .eq 5, 3) := by decide +kernel
theorem dL_law_388 : decode cL_law 388 = .ok (.iload 5, 2) := by decide +kernel
theorem dL_law_390 : decode cL_law 390 = .ok (.ifCond .ne 15, 3) := by decide +kernel
theorem dL_law_405 : decode cL_law 405 = .ok (.goto 2596, 3) := by decide +kernel
theorem dL_law_393 : decode cL_law 393 = .ok (.aload_n 3, 1) := by decide +kernel
theorem dL_law_394 : decode cL_law 394 = .ok (.iconst 0, 1) := by decide +kernel
theorem dL_law_395 : decode cL_law 395 = .ok (.laload, 1) := by decide +kernel
theorem dL_law_396 : decode cL_law 396 = .ok (.iload 6, 2) := by decide +kernel
theorem dL_law_398 : decode cL_law 398 = .ok (.i2l, 1) := by decide +kernel
theorem dL_law_399 : decode cL_law 399 = .ok (.lcmp, 1) := by decide +kernel
theorem dL_law_400 : decode cL_law 400 = .ok (.ifCond .eq 5, 3) := by decide +kernel
theorem dL_law_408 : decode cL_law 408 = .ok (.aload_n 1, 1) := by decide +kernel
theorem dL_law_409 : decode cL_law 409 = .ok (.invokevirtual 176, 3) := by decide +kernel
theorem dL_law_412 : decode cL_law 412 = .ok (.aload_n 2, 1) := by decide +kernel
theorem dL_law_413 : decode cL_law 413 = .ok (.invokevirtual 179, 3) := by decide +kernel
theorem dL_law_416 : decode cL_law 416 = .ok (.if_icmp .eq 2585, 3) := by decide +kernel
theorem dL_law_421 : decode cL_law 421 = .ok (.aload_n 1, 1) := by decide +kernel
theorem dL_law_422 : decode cL_law 422 = .ok (.invokevirtual 180, 3) := by decide +kernel
theorem dL_law_425 : decode cL_law 425 = .ok (.aload_n 2, 1) := by decide +kernel
theorem dL_law_426 : decode cL_law 426 = .ok (.invokevirtual 183, 3) := by decide +kernel
theorem dL_law_429 : decode cL_law 429 = .ok (.if_icmp .eq 2572, 3) := by decide +kernel
theorem dL_law_434 : decode cL_law 434 = .ok (.aload_n 1, 1) := by decide +kernel
theorem dL_law_435 : decode cL_law 435 = .ok (.aload_n 0, 1) := by decide +kernel
theorem dL_law_436 : decode cL_law 436 = .ok (.iload 4, 2) := by decide +kernel
theorem dL_law_438 : decode cL_law 438 = .ok (.iconst 1, 1) := by decide +kernel
theorem dL_law_439 : decode cL_law 439 = .ok (.iadd, 1) := by decide +kernel
theorem dL_law_440 : decode cL_law 440 = .ok (.iaload, 1) := by decide +kernel
theorem dL_law_441 : decode cL_law 441 = .ok (.aload_n 0, 1) := by decide +kernel
theorem dL_law_442 : decode cL_law 442 = .ok (.iload 4, 2) := by decide +kernel
theorem dL_law_444 : decode cL_law 444 = .ok (.iconst 2, 1) := by decide +kernel
theorem dL_law_445 : decode cL_law 445 = .ok (.iadd, 1) := by decide +kernel
theorem dL_law_446 : decode cL_law 446 = .ok (.iaload, 1) := by decide +kernel
theorem dL_law_447 : decode cL_law 447 = .ok (.aload_n 0, 1) := by decide +kernel
theorem dL_law_448 : decode cL_law 448 = .ok (.iload 4, 2) := by decide +kernel
theorem dL_law_450 : decode cL_law 450 = .ok (.iconst 3, 1) := by decide +kernel
theorem dL_law_451 : decode cL_law 451 = .ok (.iadd, 1) := by decide +kernel
theorem dL_law_452 : decode cL_law 452 = .ok (.iaload, 1) := by decide +kernel
theorem dL_law_453 : decode cL_law 453 = .ok (.aload_n 3, 1) := by decide +kernel
theorem dL_law_454 : decode cL_law 454 = .ok (.invokestatic 184, 3) := by decide +kernel
theorem dL_law_457 : decode cL_law 457 = .ok (.istore 5, 2) := by decide +kernel
theorem dL_law_459 : decode cL_law 459 = .ok (.aload_n 2, 1) := by decide +kernel
theorem dL_law_460 : decode cL_law 460 = .ok (.aload_n 0, 1) := by decide +kernel
theorem dL_law_461 : decode cL_law 461 = .ok (.iload 4, 2) := by decide +kernel
theorem dL_law_463 : decode cL_law 463 = .ok (.iconst 1, 1) := by decide +kernel
theorem dL_law_464 : decode cL_law 464 = .ok (.iadd, 1) := by decide +kernel
theorem dL_law_465 : decode cL_law 465 = .ok (.iaload, 1) := by decide +kernel
theorem dL_law_466 : decode cL_law 466 = .ok (.aload_n 0, 1) := by decide +kernel
theorem dL_law_467 : decode cL_law 467 = .ok (.iload 4, 2) := by decide +kernel
theorem dL_law_469 : decode cL_law 469 = .ok (.iconst 2, 1) := by decide +kernel
theorem dL_law_470 : decode cL_law 470 = .ok (.iadd, 1) := by decide +kernel
theorem dL_law_471 : decode cL_law 471 = .ok (.iaload, 1) := by decide +kernel
theorem dL_law_472 : decode cL_law 472 = .ok (.aload_n 0, 1) := by decide +kernel
theorem dL_law_473 : decode cL_law 473 = .ok (.iload 4, 2) := by decide +kernel
theorem dL_law_475 : decode cL_law 475 = .ok (.iconst 3, 1) := by decide +kernel
theorem dL_law_476 : decode cL_law 476 = .ok (.iadd, 1) := by decide +kernel
theorem dL_law_477 : decode cL_law 477 = .ok (.iaload, 1) := by decide +kernel
theorem dL_law_478 : decode cL_law 478 = .ok (.invokevirtual 187, 3) := by decide +kernel
theorem dL_law_481 : decode cL_law 481 = .ok (.istore 6, 2) := by decide +kernel
theorem dL_law_483 : decode cL_law 483 = .ok (.aload_n 2, 1) := by decide +kernel
theorem dL_law_484 : decode cL_law 484 = .ok (.invokevirtual 169, 3) := by decide +kernel
theorem dL_law_487 : decode cL_law 487 = .ok (.iload 5, 2) := by decide +kernel
theorem dL_law_489 : decode cL_law 489 = .ok (.if_icmp .eq 5, 3) := by decide +kernel
theorem dL_law_494 : decode cL_law 494 = .ok (.iload 5, 2) := by decide +kernel
theorem dL_law_496 : decode cL_law 496 = .ok (.ifCond .ne 15, 3) := by decide +kernel
theorem dL_law_511 : decode cL_law 511 = .ok (.goto 2490, 3) := by decide +kernel
theorem dL_law_499 : decode cL_law 499 = .ok (.aload_n 3, 1) := by decide +kernel
theorem dL_law_500 : decode cL_law 500 = .ok (.iconst 0, 1) := by decide +kernel
theorem dL_law_501 : decode cL_law 501 = .ok (.laload, 1) := by decide +kernel
theorem dL_law_502 : decode cL_law 502 = .ok (.iload 6, 2) := by decide +kernel
theorem dL_law_504 : decode cL_law 504 = .ok (.i2l, 1) := by decide +kernel
theorem dL_law_505 : decode cL_law 505 = .ok (.lcmp, 1) := by decide +kernel
theorem dL_law_506 : decode cL_law 506 = .ok (.ifCond .eq 5, 3) := by decide +kernel
theorem dL_law_514 : decode cL_law 514 = .ok (.aload_n 1, 1) := by decide +kernel
theorem dL_law_515 : decode cL_law 515 = .ok (.aload_n 0, 1) := by decide +kernel
theorem dL_law_516 : decode cL_law 516 = .ok (.iload 4, 2) := by decide +kernel
theorem dL_law_518 : decode cL_law 518 = .ok (.iconst 1, 1) := by decide +kernel
theorem dL_law_519 : decode cL_law 519 = .ok (.iadd, 1) := by decide +kernel
theorem dL_law_520 : decode cL_law 520 = .ok (.iaload, 1) := by decide +kernel
theorem dL_law_521 : decode cL_law 521 = .ok (.aload_n 3, 1) := by decide +kernel
theorem dL_law_522 : decode cL_law 522 = .ok (.invokestatic 188, 3) := by decide +kernel
theorem dL_law_525 : decode cL_law 525 = .ok (.istore 5, 2) := by decide +kernel
theorem dL_law_527 : decode cL_law 527 = .ok (.aload_n 2, 1) := by decide +kernel
theorem dL_law_528 : decode cL_law 528 = .ok (.aload_n 0, 1) := by decide +kernel
theorem dL_law_529 : decode cL_law 529 = .ok (.iload 4, 2) := by decide +kernel
theorem dL_law_531 : decode cL_law 531 = .ok (.iconst 1, 1) := by decide +kernel
theorem dL_law_532 : decode cL_law 532 = .ok (.iadd, 1) := by decide +kernel
theorem dL_law_533 : decode cL_law 533 = .ok (.iaload, 1) := by decide +kernel
theorem dL_law_534 : decode cL_law 534 = .ok (.invokevirtual 190, 3) := by decide +kernel
theorem dL_law_537 : decode cL_law 537 = .ok (.istore 6, 2) := by decide +kernel
theorem dL_law_539 : decode cL_law 539 = .ok (.aload_n 2, 1) := by decide +kernel
theorem dL_law_540 : decode cL_law 540 = .ok (.invokevirtual 169, 3) := by decide +kernel
theorem dL_law_543 : decode cL_law 543 = .ok (.iload 5, 2) := by decide +kernel
theorem dL_law_545 : decode cL_law 545 = .ok (.if_icmp .eq 5, 3) := by decide +kernel
theorem dL_law_550 : decode cL_law 550 = .ok (.iload 5, 2) := by decide +kernel
theorem dL_law_552 : decode cL_law 552 = .ok (.ifCond .ne 15, 3) := by decide +kernel
theorem dL_law_567 : decode cL_law 567 = .ok (.goto 2434, 3) := by decide +kernel
theorem dL_law_555 : decode cL_law 555 = .ok (.aload_n 3, 1) := by decide +kernel
theorem dL_law_556 : decode cL_law 556 = .ok (.iconst 0, 1) := by decide +kernel
theorem dL_law_557 : decode cL_law 557 = .ok (.laload, 1) := by decide +kernel
theorem dL_law_558 : decode cL_law 558 = .ok (.iload 6, 2) := by decide +kernel
theorem dL_law_560 : decode cL_law 560 = .ok (.i2l, 1) := by decide +kernel
theorem dL_law_561 : decode cL_law 561 = .ok (.lcmp, 1) := by decide +kernel
theorem dL_law_562 : decode cL_law 562 = .ok (.ifCond .eq 5, 3) := by decide +kernel
theorem dL_law_570 : decode cL_law 570 = .ok (.aload_n 1, 1) := by decide +kernel
theorem dL_law_571 : decode cL_law 571 = .ok (.aload_n 0, 1) := by decide +kernel
theorem dL_law_572 : decode cL_law 572 = .ok (.iload 4, 2) := by decide +kernel
theorem dL_law_574 : decode cL_law 574 = .ok (.iconst 1, 1) := by decide +kernel
theorem dL_law_575 : decode cL_law 575 = .ok (.iadd, 1) := by decide +kernel
theorem dL_law_576 : decode cL_law 576 = .ok (.iaload, 1) := by decide +kernel
theorem dL_law_577 : decode cL_law 577 = .ok (.aload_n 0, 1) := by decide +kernel
theorem dL_law_578 : decode cL_law 578 = .ok (.iload 4, 2) := by decide +kernel
theorem dL_law_580 : decode cL_law 580 = .ok (.iconst 2, 1) := by decide +kernel
theorem dL_law_581 : decode cL_law 581 = .ok (.iadd, 1) := by decide +kernel
theorem dL_law_582 : decode cL_law 582 = .ok (.iaload, 1) := by decide +kernel
theorem dL_law_583 : decode cL_law 583 = .ok (.aload_n 3, 1) := by decide +kernel
theorem dL_law_584 : decode cL_law 584 = .ok (.invokestatic 191, 3) := by decide +kernel
theorem dL_law_587 : decode cL_law 587 = .ok (.istore 5, 2) := by decide +kernel
theorem dL_law_589 : decode cL_law 589 = .ok (.aload_n 2, 1) := by decide +kernel
theorem dL_law_590 : decode cL_law 590 = .ok (.aload_n 0, 1) := by decide +kernel
theorem dL_law_591 : decode cL_law 591 = .ok (.iload 4, 2) := by decide +kernel
theorem dL_law_593 : decode cL_law 593 = .ok (.iconst 1, 1) := by decide +kernel
theorem dL_law_594 : decode cL_law 594 = .ok (.iadd, 1) := by decide +kernel
theorem dL_law_595 : decode cL_law 595 = .ok (.iaload, 1) := by decide +kernel
theorem dL_law_596 : decode cL_law 596 = .ok (.aload_n 0, 1) := by decide +kernel
theorem dL_law_597 : decode cL_law 597 = .ok (.iload 4, 2) := by decide +kernel
theorem dL_law_599 : decode cL_law 599 = .ok (.iconst 2, 1) := by decide +kernel
theorem dL_law_600 : decode cL_law 600 = .ok (.iadd, 1) := by decide +kernel
theorem dL_law_601 : decode cL_law 601 = .ok (.iaload, 1) := by decide +kernel
theorem dL_law_602 : decode cL_law 602 = .ok (.invokevirtual 194, 3) := by decide +kernel
theorem dL_law_605 : decode cL_law 605 = .ok (.istore 6, 2) := by decide +kernel
theorem dL_law_607 : decode cL_law 607 = .ok (.aload_n 2, 1) := by decide +kernel
theorem dL_law_608 : decode cL_law 608 = .ok (.invokevirtual 169, 3) := by decide +kernel
theorem dL_law_611 : decode cL_law 611 = .ok (.iload 5, 2) := by decide +kernel
theorem dL_law_613 : decode cL_law 613 = .ok (.if_icmp .eq 5, 3) := by decide +kernel
theorem dL_law_618 : decode cL_law 618 = .ok (.iload 5, 2) := by decide +kernel
theorem dL_law_620 : decode cL_law 620 = .ok (.ifCond .ne 15, 3) := by decide +kernel
theorem dL_law_635 : decode cL_law 635 = .ok (.goto 2366, 3) := by decide +kernel
theorem dL_law_623 : decode cL_law 623 = .ok (.aload_n 3, 1) := by decide +kernel
theorem dL_law_624 : decode cL_law 624 = .ok (.iconst 0, 1) := by decide +kernel
theorem dL_law_625 : decode cL_law 625 = .ok (.laload, 1) := by decide +kernel
theorem dL_law_626 : decode cL_law 626 = .ok (.iload 6, 2) := by decide +kernel
theorem dL_law_628 : decode cL_law 628 = .ok (.i2l, 1) := by decide +kernel
theorem dL_law_629 : decode cL_law 629 = .ok (.lcmp, 1) := by decide +kernel
theorem dL_law_630 : decode cL_law 630 = .ok (.ifCond .eq 5, 3) := by decide +kernel
theorem dL_law_638 : decode cL_law 638 = .ok (.aload_n 1, 1) := by decide +kernel
theorem dL_law_639 : decode cL_law 639 = .ok (.aload_n 0, 1) := by decide +kernel
theorem dL_law_640 : decode cL_law 640 = .ok (.iload 4, 2) := by decide +kernel
theorem dL_law_642 : decode cL_law 642 = .ok (.iconst 1, 1) := by decide +kernel
theorem dL_law_643 : decode cL_law 643 = .ok (.iadd, 1) := by decide +kernel
theorem dL_law_644 : decode cL_law 644 = .ok (.iaload, 1) := by decide +kernel
theorem dL_law_645 : decode cL_law 645 = .ok (.aload_n 3, 1) := by decide +kernel
theorem dL_law_646 : decode cL_law 646 = .ok (.invokestatic 195, 3) := by decide +kernel
theorem dL_law_649 : decode cL_law 649 = .ok (.istore 5, 2) := by decide +kernel
theorem dL_law_651 : decode cL_law 651 = .ok (.aload_n 2, 1) := by decide +kernel
theorem dL_law_652 : decode cL_law 652 = .ok (.aload_n 0, 1) := by decide +kernel
theorem dL_law_653 : decode cL_law 653 = .ok (.iload 4, 2) := by decide +kernel
theorem dL_law_655 : decode cL_law 655 = .ok (.iconst 1, 1) := by decide +kernel
theorem dL_law_656 : decode cL_law 656 = .ok (.iadd, 1) := by decide +kernel
theorem dL_law_657 : decode cL_law 657 = .ok (.iaload, 1) := by decide +kernel
theorem dL_law_658 : decode cL_law 658 = .ok (.invokevirtual 197, 3) := by decide +kernel
theorem dL_law_661 : decode cL_law 661 = .ok (.istore 6, 2) := by decide +kernel
theorem dL_law_663 : decode cL_law 663 = .ok (.aload_n 2, 1) := by decide +kernel
theorem dL_law_664 : decode cL_law 664 = .ok (.invokevirtual 169, 3) := by decide +kernel
theorem dL_law_667 : decode cL_law 667 = .ok (.iload 5, 2) := by decide +kernel
theorem dL_law_669 : decode cL_law 669 = .ok (.if_icmp .eq 5, 3) := by decide +kernel
theorem dL_law_674 : decode cL_law 674 = .ok (.iload 5, 2) := by decide +kernel
theorem dL_law_676 : decode cL_law 676 = .ok (.ifCond .ne 15, 3) := by decide +kernel
theorem dL_law_691 : decode cL_law 691 = .ok (.goto 2310, 3) := by decide +kernel
theorem dL_law_679 : decode cL_law 679 = .ok (.aload_n 3, 1) := by decide +kernel
theorem dL_law_680 : decode cL_law 680 = .ok (.iconst 0, 1) := by decide +kernel
theorem dL_law_681 : decode cL_law 681 = .ok (.laload, 1) := by decide +kernel
theorem dL_law_682 : decode cL_law 682 = .ok (.iload 6, 2) := by decide +kernel
theorem dL_law_684 : decode cL_law 684 = .ok (.i2l, 1) := by decide +kernel
theorem dL_law_685 : decode cL_law 685 = .ok (.lcmp, 1) := by decide +kernel
theorem dL_law_686 : decode cL_law 686 = .ok (.ifCond .eq 5, 3) := by decide +kernel
theorem dL_law_694 : decode cL_law 694 = .ok (.aload_n 1, 1) := by decide +kernel
theorem dL_law_695 : decode cL_law 695 = .ok (.aload_n 0, 1) := by decide +kernel
theorem dL_law_696 : decode cL_law 696 = .ok (.iload 4, 2) := by decide +kernel
theorem dL_law_698 : decode cL_law 698 = .ok (.iconst 1, 1) := by decide +kernel
theorem dL_law_699 : decode cL_law 699 = .ok (.iadd, 1) := by decide +kernel
theorem dL_law_700 : decode cL_law 700 = .ok (.iaload, 1) := by decide +kernel
theorem dL_law_701 : decode cL_law 701 = .ok (.aload_n 3, 1) := by decide +kernel
theorem dL_law_702 : decode cL_law 702 = .ok (.invokestatic 198, 3) := by decide +kernel
theorem dL_law_705 : decode cL_law 705 = .ok (.istore 5, 2) := by decide +kernel
theorem dL_law_707 : decode cL_law 707 = .ok (.aload_n 2, 1) := by decide +kernel
theorem dL_law_708 : decode cL_law 708 = .ok (.aload_n 0, 1) := by decide +kernel
theorem dL_law_709 : decode cL_law 709 = .ok (.iload 4, 2) := by decide +kernel
theorem dL_law_711 : decode cL_law 711 = .ok (.iconst 1, 1) := by decide +kernel
theorem dL_law_712 : decode cL_law 712 = .ok (.iadd, 1) := by decide +kernel
theorem dL_law_713 : decode cL_law 713 = .ok (.iaload, 1) := by decide +kernel
theorem dL_law_714 : decode cL_law 714 = .ok (.invokevirtual 200, 3) := by decide +kernel
theorem dL_law_717 : decode cL_law 717 = .ok (.istore 6, 2) := by decide +kernel
theorem dL_law_719 : decode cL_law 719 = .ok (.aload_n 2, 1) := by decide +kernel
theorem dL_law_720 : decode cL_law 720 = .ok (.invokevirtual 169, 3) := by decide +kernel
theorem dL_law_723 : decode cL_law 723 = .ok (.iload 5, 2) := by decide +kernel
theorem dL_law_725 : decode cL_law 725 = .ok (.if_icmp .eq 5, 3) := by decide +kernel
theorem dL_law_730 : decode cL_law 730 = .ok (.iload 5, 2) := by decide +kernel
theorem dL_law_732 : decode cL_law 732 = .ok (.ifCond .ne 15, 3) := by decide +kernel
theorem dL_law_747 : decode cL_law 747 = .ok (.goto 2254, 3) := by decide +kernel
theorem dL_law_735 : decode cL_law 735 = .ok (.aload_n 3, 1) := by decide +kernel
theorem dL_law_736 : decode cL_law 736 = .ok (.iconst 0, 1) := by decide +kernel
theorem dL_law_737 : decode cL_law 737 = .ok (.laload, 1) := by decide +kernel
theorem dL_law_738 : decode cL_law 738 = .ok (.iload 6, 2) := by decide +kernel
theorem dL_law_740 : decode cL_law 740 = .ok (.i2l, 1) := by decide +kernel
theorem dL_law_741 : decode cL_law 741 = .ok (.lcmp, 1) := by decide +kernel
theorem dL_law_742 : decode cL_law 742 = .ok (.ifCond .eq 5, 3) := by decide +kernel
theorem dL_law_750 : decode cL_law 750 = .ok (.aload_n 1, 1) := by decide +kernel
theorem dL_law_751 : decode cL_law 751 = .ok (.aload_n 0, 1) := by decide +kernel
theorem dL_law_752 : decode cL_law 752 = .ok (.iload 4, 2) := by decide +kernel
theorem dL_law_754 : decode cL_law 754 = .ok (.iconst 1, 1) := by decide +kernel
theorem dL_law_755 : decode cL_law 755 = .ok (.iadd, 1) := by decide +kernel
theorem dL_law_756 : decode cL_law 756 = .ok (.iaload, 1) := by decide +kernel
theorem dL_law_757 : decode cL_law 757 = .ok (.aload_n 3, 1) := by decide +kernel
theorem dL_law_758 : decode cL_law 758 = .ok (.invokestatic 201, 3) := by decide +kernel
theorem dL_law_761 : decode cL_law 761 = .ok (.istore 5, 2) := by decide +kernel
theorem dL_law_763 : decode cL_law 763 = .ok (.aload_n 2, 1) := by decide +kernel
theorem dL_law_764 : decode cL_law 764 = .ok (.aload_n 0, 1) := by decide +kernel
theorem dL_law_765 : decode cL_law 765 = .ok (.iload 4, 2) := by decide +kernel
theorem dL_law_767 : decode cL_law 767 = .ok (.iconst 1, 1) := by decide +kernel
theorem dL_law_768 : decode cL_law 768 = .ok (.iadd, 1) := by decide +kernel
theorem dL_law_769 : decode cL_law 769 = .ok (.iaload, 1) := by decide +kernel
theorem dL_law_770 : decode cL_law 770 = .ok (.invokevirtual 203, 3) := by decide +kernel
theorem dL_law_773 : decode cL_law 773 = .ok (.istore 6, 2) := by decide +kernel
theorem dL_law_775 : decode cL_law 775 = .ok (.aload_n 2, 1) := by decide +kernel
theorem dL_law_776 : decode cL_law 776 = .ok (.invokevirtual 169, 3) := by decide +kernel
theorem dL_law_779 : decode cL_law 779 = .ok (.iload 5, 2) := by decide +kernel
theorem dL_law_781 : decode cL_law 781 = .ok (.if_icmp .eq 5, 3) := by decide +kernel
theorem dL_law_786 : decode cL_law 786 = .ok (.iload 5, 2) := by decide +kernel
theorem dL_law_788 : decode cL_law 788 = .ok (.ifCond .ne 15, 3) := by decide +kernel
theorem dL_law_803 : decode cL_law 803 = .ok (.goto 2198, 3) := by decide +kernel
theorem dL_law_791 : decode cL_law 791 = .ok (.aload_n 3, 1) := by decide +kernel
theorem dL_law_792 : decode cL_law 792 = .ok (.iconst 0, 1) := by decide +kernel
theorem dL_law_793 : decode cL_law 793 = .ok (.laload, 1) := by decide +kernel
theorem dL_law_794 : decode cL_law 794 = .ok (.iload 6, 2) := by decide +kernel
theorem dL_law_796 : decode cL_law 796 = .ok (.i2l, 1) := by decide +kernel
theorem dL_law_797 : decode cL_law 797 = .ok (.lcmp, 1) := by decide +kernel
theorem dL_law_798 : decode cL_law 798 = .ok (.ifCond .eq 5, 3) := by decide +kernel
theorem dL_law_806 : decode cL_law 806 = .ok (.aload_n 1, 1) := by decide +kernel
theorem dL_law_807 : decode cL_law 807 = .ok (.aload_n 0, 1) := by decide +kernel
theorem dL_law_808 : decode cL_law 808 = .ok (.iload 4, 2) := by decide +kernel
theorem dL_law_810 : decode cL_law 810 = .ok (.iconst 1, 1) := by decide +kernel
theorem dL_law_811 : decode cL_law 811 = .ok (.iadd, 1) := by decide +kernel
theorem dL_law_812 : decode cL_law 812 = .ok (.iaload, 1) := by decide +kernel
theorem dL_law_813 : decode cL_law 813 = .ok (.aload_n 0, 1) := by decide +kernel
theorem dL_law_814 : decode cL_law 814 = .ok (.iload 4, 2) := by decide +kernel
theorem dL_law_816 : decode cL_law 816 = .ok (.iconst 2, 1) := by decide +kernel
theorem dL_law_817 : decode cL_law 817 = .ok (.iadd, 1) := by decide +kernel
theorem dL_law_818 : decode cL_law 818 = .ok (.iaload, 1) := by decide +kernel
theorem dL_law_819 : decode cL_law 819 = .ok (.aload_n 3, 1) := by decide +kernel
theorem dL_law_820 : decode cL_law 820 = .ok (.invokestatic 204, 3) := by decide +kernel
theorem dL_law_823 : decode cL_law 823 = .ok (.istore 5, 2) := by decide +kernel
theorem dL_law_825 : decode cL_law 825 = .ok (.aload_n 2, 1) := by decide +kernel
theorem dL_law_826 : decode cL_law 826 = .ok (.aload_n 0, 1) := by decide +kernel
theorem dL_law_827 : decode cL_law 827 = .ok (.iload 4, 2) := by decide +kernel
theorem dL_law_829 : decode cL_law 829 = .ok (.iconst 1, 1) := by decide +kernel
theorem dL_law_830 : decode cL_law 830 = .ok (.iadd, 1) := by decide +kernel
theorem dL_law_831 : decode cL_law 831 = .ok (.iaload, 1) := by decide +kernel
theorem dL_law_832 : decode cL_law 832 = .ok (.aload_n 0, 1) := by decide +kernel
theorem dL_law_833 : decode cL_law 833 = .ok (.iload 4, 2) := by decide +kernel
theorem dL_law_835 : decode cL_law 835 = .ok (.iconst 2, 1) := by decide +kernel
theorem dL_law_836 : decode cL_law 836 = .ok (.iadd, 1) := by decide +kernel
theorem dL_law_837 : decode cL_law 837 = .ok (.iaload, 1) := by decide +kernel
theorem dL_law_838 : decode cL_law 838 = .ok (.invokevirtual 206, 3) := by decide +kernel
theorem dL_law_841 : decode cL_law 841 = .ok (.istore 6, 2) := by decide +kernel
theorem dL_law_843 : decode cL_law 843 = .ok (.aload_n 2, 1) := by decide +kernel
theorem dL_law_844 : decode cL_law 844 = .ok (.invokevirtual 169, 3) := by decide +kernel
theorem dL_law_847 : decode cL_law 847 = .ok (.iload 5, 2) := by decide +kernel
theorem dL_law_849 : decode cL_law 849 = .ok (.if_icmp .eq 5, 3) := by decide +kernel
theorem dL_law_854 : decode cL_law 854 = .ok (.iload 5, 2) := by decide +kernel
theorem dL_law_856 : decode cL_law 856 = .ok (.ifCond .ne 15, 3) := by decide +kernel
theorem dL_law_871 : decode cL_law 871 = .ok (.goto 2130, 3) := by decide +kernel
theorem dL_law_859 : decode cL_law 859 = .ok (.aload_n 3, 1) := by decide +kernel
theorem dL_law_860 : decode cL_law 860 = .ok (.iconst 0, 1) := by decide +kernel
theorem dL_law_861 : decode cL_law 861 = .ok (.laload, 1) := by decide +kernel
theorem dL_law_862 : decode cL_law 862 = .ok (.iload 6, 2) := by decide +kernel
theorem dL_law_864 : decode cL_law 864 = .ok (.i2l, 1) := by decide +kernel
theorem dL_law_865 : decode cL_law 865 = .ok (.lcmp, 1) := by decide +kernel
theorem dL_law_866 : decode cL_law 866 = .ok (.ifCond .eq 5, 3) := by decide +kernel
theorem dL_law_874 : decode cL_law 874 = .ok (.aload_n 1, 1) := by decide +kernel
theorem dL_law_875 : decode cL_law 875 = .ok (.aload_n 0, 1) := by decide +kernel
theorem dL_law_876 : decode cL_law 876 = .ok (.iload 4, 2) := by decide +kernel
theorem dL_law_878 : decode cL_law 878 = .ok (.iconst 1, 1) := by decide +kernel
theorem dL_law_879 : decode cL_law 879 = .ok (.iadd, 1) := by decide +kernel
theorem dL_law_880 : decode cL_law 880 = .ok (.iaload, 1) := by decide +kernel
theorem dL_law_881 : decode cL_law 881 = .ok (.aload_n 0, 1) := by decide +kernel
theorem dL_law_882 : decode cL_law 882 = .ok (.iload 4, 2) := by decide +kernel
theorem dL_law_884 : decode cL_law 884 = .ok (.iconst 2, 1) := by decide +kernel
theorem dL_law_885 : decode cL_law 885 = .ok (.iadd, 1) := by decide +kernel
theorem dL_law_886 : decode cL_law 886 = .ok (.iaload, 1) := by decide +kernel
theorem dL_law_887 : decode cL_law 887 = .ok (.aload_n 3, 1) := by decide +kernel
theorem dL_law_888 : decode cL_law 888 = .ok (.invokestatic 207, 3) := by decide +kernel
theorem dL_law_891 : decode cL_law 891 = .ok (.istore 5, 2) := by decide +kernel
theorem dL_law_893 : decode cL_law 893 = .ok (.aload_n 2, 1) := by decide +kernel
theorem dL_law_894 : decode cL_law 894 = .ok (.aload_n 0, 1) := by decide +kernel
theorem dL_law_895 : decode cL_law 895 = .ok (.iload 4, 2) := by decide +kernel
theorem dL_law_897 : decode cL_law 897 = .ok (.iconst 1, 1) := by decide +kernel
theorem dL_law_898 : decode cL_law 898 = .ok (.iadd, 1) := by decide +kernel
theorem dL_law_899 : decode cL_law 899 = .ok (.iaload, 1) := by decide +kernel
theorem dL_law_900 : decode cL_law 900 = .ok (.aload_n 0, 1) := by decide +kernel
theorem dL_law_901 : decode cL_law 901 = .ok (.iload 4, 2) := by decide +kernel
theorem dL_law_903 : decode cL_law 903 = .ok (.iconst 2, 1) := by decide +kernel
theorem dL_law_904 : decode cL_law 904 = .ok (.iadd, 1) := by decide +kernel
theorem dL_law_905 : decode cL_law 905 = .ok (.iaload, 1) := by decide +kernel
theorem dL_law_906 : decode cL_law 906 = .ok (.invokevirtual 209, 3) := by decide +kernel
theorem dL_law_909 : decode cL_law 909 = .ok (.istore 6, 2) := by decide +kernel
theorem dL_law_911 : decode cL_law 911 = .ok (.aload_n 2, 1) := by decide +kernel
theorem dL_law_912 : decode cL_law 912 = .ok (.invokevirtual 169, 3) := by decide +kernel
theorem dL_law_915 : decode cL_law 915 = .ok (.iload 5, 2) := by decide +kernel
theorem dL_law_917 : decode cL_law 917 = .ok (.if_icmp .eq 5, 3) := by decide +kernel
theorem dL_law_922 : decode cL_law 922 = .ok (.iload 5, 2) := by decide +kernel
theorem dL_law_924 : decode cL_law 924 = .ok (.ifCond .ne 15, 3) := by decide +kernel
theorem dL_law_939 : decode cL_law 939 = .ok (.goto 2062, 3) := by decide +kernel
theorem dL_law_927 : decode cL_law 927 = .ok (.aload_n 3, 1) := by decide +kernel
theorem dL_law_928 : decode cL_law 928 = .ok (.iconst 0, 1) := by decide +kernel
theorem dL_law_929 : decode cL_law 929 = .ok (.laload, 1) := by decide +kernel
theorem dL_law_930 : decode cL_law 930 = .ok (.iload 6, 2) := by decide +kernel
theorem dL_law_932 : decode cL_law 932 = .ok (.i2l, 1) := by decide +kernel
theorem dL_law_933 : decode cL_law 933 = .ok (.lcmp, 1) := by decide +kernel
theorem dL_law_934 : decode cL_law 934 = .ok (.ifCond .eq 5, 3) := by decide +kernel
theorem dL_law_942 : decode cL_law 942 = .ok (.aload_n 1, 1) := by decide +kernel
theorem dL_law_943 : decode cL_law 943 = .ok (.aload_n 0, 1) := by decide +kernel
theorem dL_law_944 : decode cL_law 944 = .ok (.iload 4, 2) := by decide +kernel
theorem dL_law_946 : decode cL_law 946 = .ok (.iconst 1, 1) := by decide +kernel
theorem dL_law_947 : decode cL_law 947 = .ok (.iadd, 1) := by decide +kernel
theorem dL_law_948 : decode cL_law 948 = .ok (.iaload, 1) := by decide +kernel
theorem dL_law_949 : decode cL_law 949 = .ok (.aload_n 0, 1) := by decide +kernel
theorem dL_law_950 : decode cL_law 950 = .ok (.iload 4, 2) := by decide +kernel
theorem dL_law_952 : decode cL_law 952 = .ok (.iconst 2, 1) := by decide +kernel
theorem dL_law_953 : decode cL_law 953 = .ok (.iadd, 1) := by decide +kernel
theorem dL_law_954 : decode cL_law 954 = .ok (.iaload, 1) := by decide +kernel
theorem dL_law_955 : decode cL_law 955 = .ok (.aload_n 3, 1) := by decide +kernel
theorem dL_law_956 : decode cL_law 956 = .ok (.invokestatic 210, 3) := by decide +kernel
theorem dL_law_959 : decode cL_law 959 = .ok (.istore 5, 2) := by decide +kernel
theorem dL_law_961 : decode cL_law 961 = .ok (.aload_n 2, 1) := by decide +kernel
theorem dL_law_962 : decode cL_law 962 = .ok (.aload_n 0, 1) := by decide +kernel
theorem dL_law_963 : decode cL_law 963 = .ok (.iload 4, 2) := by decide +kernel
theorem dL_law_965 : decode cL_law 965 = .ok (.iconst 1, 1) := by decide +kernel
theorem dL_law_966 : decode cL_law 966 = .ok (.iadd, 1) := by decide +kernel
theorem dL_law_967 : decode cL_law 967 = .ok (.iaload, 1) := by decide +kernel
theorem dL_law_968 : decode cL_law 968 = .ok (.aload_n 0, 1) := by decide +kernel
theorem dL_law_969 : decode cL_law 969 = .ok (.iload 4, 2) := by decide +kernel
theorem dL_law_971 : decode cL_law 971 = .ok (.iconst 2, 1) := by decide +kernel
theorem dL_law_972 : decode cL_law 972 = .ok (.iadd, 1) := by decide +kernel
theorem dL_law_973 : decode cL_law 973 = .ok (.iaload, 1) := by decide +kernel
theorem dL_law_974 : decode cL_law 974 = .ok (.invokevirtual 212, 3) := by decide +kernel
theorem dL_law_977 : decode cL_law 977 = .ok (.istore 6, 2) := by decide +kernel
theorem dL_law_979 : decode cL_law 979 = .ok (.aload_n 2, 1) := by decide +kernel
theorem dL_law_980 : decode cL_law 980 = .ok (.invokevirtual 169, 3) := by decide +kernel
theorem dL_law_983 : decode cL_law 983 = .ok (.iload 5, 2) := by decide +kernel
theorem dL_law_985 : decode cL_law 985 = .ok (.if_icmp .eq 5, 3) := by decide +kernel
theorem dL_law_990 : decode cL_law 990 = .ok (.iload 5, 2) := by decide +kernel
theorem dL_law_992 : decode cL_law 992 = .ok (.ifCond .ne 15, 3) := by decide +kernel
theorem dL_law_1007 : decode cL_law 1007 = .ok (.goto 1994, 3) := by decide +kernel
theorem dL_law_995 : decode cL_law 995 = .ok (.aload_n 3, 1) := by decide +kernel
theorem dL_law_996 : decode cL_law 996 = .ok (.iconst 0, 1) := by decide +kernel
theorem dL_law_997 : decode cL_law 997 = .ok (.laload, 1) := by decide +kernel
theorem dL_law_998 : decode cL_law 998 = .ok (.iload 6, 2) := by decide +kernel
theorem dL_law_1000 : decode cL_law 1000 = .ok (.i2l, 1) := by decide +kernel
theorem dL_law_1001 : decode cL_law 1001 = .ok (.lcmp, 1) := by decide +kernel
theorem dL_law_1002 : decode cL_law 1002 = .ok (.ifCond .eq 5, 3) := by decide +kernel
theorem dL_law_1010 : decode cL_law 1010 = .ok (.aload_n 1, 1) := by decide +kernel
theorem dL_law_1011 : decode cL_law 1011 = .ok (.aload_n 0, 1) := by decide +kernel
theorem dL_law_1012 : decode cL_law 1012 = .ok (.iload 4, 2) := by decide +kernel
theorem dL_law_1014 : decode cL_law 1014 = .ok (.iconst 1, 1) := by decide +kernel
theorem dL_law_1015 : decode cL_law 1015 = .ok (.iadd, 1) := by decide +kernel
theorem dL_law_1016 : decode cL_law 1016 = .ok (.iaload, 1) := by decide +kernel
theorem dL_law_1017 : decode cL_law 1017 = .ok (.aload_n 3, 1) := by decide +kernel
theorem dL_law_1018 : decode cL_law 1018 = .ok (.invokestatic 213, 3) := by decide +kernel
theorem dL_law_1021 : decode cL_law 1021 = .ok (.istore 5, 2) := by decide +kernel
theorem dL_law_1023 : decode cL_law 1023 = .ok (.aload_n 2, 1) := by decide +kernel
theorem dL_law_1024 : decode cL_law 1024 = .ok (.aload_n 0, 1) := by decide +kernel
theorem dL_law_1025 : decode cL_law 1025 = .ok (.iload 4, 2) := by decide +kernel
theorem dL_law_1027 : decode cL_law 1027 = .ok (.iconst 1, 1) := by decide +kernel
theorem dL_law_1028 : decode cL_law 1028 = .ok (.iadd, 1) := by decide +kernel
theorem dL_law_1029 : decode cL_law 1029 = .ok (.iaload, 1) := by decide +kernel
theorem dL_law_1030 : decode cL_law 1030 = .ok (.invokevirtual 215, 3) := by decide +kernel
theorem dL_law_1033 : decode cL_law 1033 = .ok (.istore 6, 2) := by decide +kernel
theorem dL_law_1035 : decode cL_law 1035 = .ok (.aload_n 2, 1) := by decide +kernel
theorem dL_law_1036 : decode cL_law 1036 = .ok (.invokevirtual 169, 3) := by decide +kernel
theorem dL_law_1039 : decode cL_law 1039 = .ok (.iload 5, 2) := by decide +kernel
theorem dL_law_1041 : decode cL_law 1041 = .ok (.if_icmp .eq 5, 3) := by decide +kernel
theorem dL_law_1046 : decode cL_law 1046 = .ok (.iload 5, 2) := by decide +kernel
theorem dL_law_1048 : decode cL_law 1048 = .ok (.ifCond .ne 15, 3) := by decide +kernel
theorem dL_law_1063 : decode cL_law 1063 = .ok (.goto 1938, 3) := by decide +kernel
theorem dL_law_1051 : decode cL_law 1051 = .ok (.aload_n 3, 1) := by decide +kernel
theorem dL_law_1052 : decode cL_law 1052 = .ok (.iconst 0, 1) := by decide +kernel
theorem dL_law_1053 : decode cL_law 1053 = .ok (.laload, 1) := by decide +kernel
theorem dL_law_1054 : decode cL_law 1054 = .ok (.iload 6, 2) := by decide +kernel
theorem dL_law_1056 : decode cL_law 1056 = .ok (.i2l, 1) := by decide +kernel
theorem dL_law_1057 : decode cL_law 1057 = .ok (.lcmp, 1) := by decide +kernel
theorem dL_law_1058 : decode cL_law 1058 = .ok (.ifCond .eq 5, 3) := by decide +kernel
theorem dL_law_1066 : decode cL_law 1066 = .ok (.aload_n 1, 1) := by decide +kernel
theorem dL_law_1067 : decode cL_law 1067 = .ok (.aload_n 0, 1) := by decide +kernel
theorem dL_law_1068 : decode cL_law 1068 = .ok (.iload 4, 2) := by decide +kernel
theorem dL_law_1070 : decode cL_law 1070 = .ok (.iconst 1, 1) := by decide +kernel
theorem dL_law_1071 : decode cL_law 1071 = .ok (.iadd, 1) := by decide +kernel
theorem dL_law_1072 : decode cL_law 1072 = .ok (.iaload, 1) := by decide +kernel
theorem dL_law_1073 : decode cL_law 1073 = .ok (.aload_n 3, 1) := by decide +kernel
theorem dL_law_1074 : decode cL_law 1074 = .ok (.invokestatic 216, 3) := by decide +kernel
theorem dL_law_1077 : decode cL_law 1077 = .ok (.istore 5, 2) := by decide +kernel
theorem dL_law_1079 : decode cL_law 1079 = .ok (.aload_n 2, 1) := by decide +kernel
theorem dL_law_1080 : decode cL_law 1080 = .ok (.aload_n 0, 1) := by decide +kernel
theorem dL_law_1081 : decode cL_law 1081 = .ok (.iload 4, 2) := by decide +kernel
theorem dL_law_1083 : decode cL_law 1083 = .ok (.iconst 1, 1) := by decide +kernel
theorem dL_law_1084 : decode cL_law 1084 = .ok (.iadd, 1) := by decide +kernel
theorem dL_law_1085 : decode cL_law 1085 = .ok (.iaload, 1) := by decide +kernel
theorem dL_law_1086 : decode cL_law 1086 = .ok (.invokevirtual 218, 3) := by decide +kernel
theorem dL_law_1089 : decode cL_law 1089 = .ok (.istore 6, 2) := by decide +kernel
theorem dL_law_1091 : decode cL_law 1091 = .ok (.aload_n 2, 1) := by decide +kernel
theorem dL_law_1092 : decode cL_law 1092 = .ok (.invokevirtual 169, 3) := by decide +kernel
theorem dL_law_1095 : decode cL_law 1095 = .ok (.iload 5, 2) := by decide +kernel
theorem dL_law_1097 : decode cL_law 1097 = .ok (.if_icmp .eq 5, 3) := by decide +kernel
theorem dL_law_1102 : decode cL_law 1102 = .ok (.iload 5, 2) := by decide +kernel
theorem dL_law_1104 : decode cL_law 1104 = .ok (.ifCond .ne 15, 3) := by decide +kernel
theorem dL_law_1119 : decode cL_law 1119 = .ok (.goto 1882, 3) := by decide +kernel
theorem dL_law_1107 : decode cL_law 1107 = .ok (.aload_n 3, 1) := by decide +kernel
theorem dL_law_1108 : decode cL_law 1108 = .ok (.iconst 0, 1) := by decide +kernel
theorem dL_law_1109 : decode cL_law 1109 = .ok (.laload, 1) := by decide +kernel
theorem dL_law_1110 : decode cL_law 1110 = .ok (.iload 6, 2) := by decide +kernel
theorem dL_law_1112 : decode cL_law 1112 = .ok (.i2l, 1) := by decide +kernel
theorem dL_law_1113 : decode cL_law 1113 = .ok (.lcmp, 1) := by decide +kernel
theorem dL_law_1114 : decode cL_law 1114 = .ok (.ifCond .eq 5, 3) := by decide +kernel
theorem dL_law_1122 : decode cL_law 1122 = .ok (.aload_n 1, 1) := by decide +kernel
theorem dL_law_1123 : decode cL_law 1123 = .ok (.aload_n 0, 1) := by decide +kernel
theorem dL_law_1124 : decode cL_law 1124 = .ok (.iload 4, 2) := by decide +kernel
theorem dL_law_1126 : decode cL_law 1126 = .ok (.iconst 1, 1) := by decide +kernel
theorem dL_law_1127 : decode cL_law 1127 = .ok (.iadd, 1) := by decide +kernel
theorem dL_law_1128 : decode cL_law 1128 = .ok (.iaload, 1) := by decide +kernel
theorem dL_law_1129 : decode cL_law 1129 = .ok (.aload_n 0, 1) := by decide +kernel
theorem dL_law_1130 : decode cL_law 1130 = .ok (.iload 4, 2) := by decide +kernel
theorem dL_law_1132 : decode cL_law 1132 = .ok (.iconst 2, 1) := by decide +kernel
theorem dL_law_1133 : decode cL_law 1133 = .ok (.iadd, 1) := by decide +kernel
theorem dL_law_1134 : decode cL_law 1134 = .ok (.iaload, 1) := by decide +kernel
theorem dL_law_1135 : decode cL_law 1135 = .ok (.aload_n 0, 1) := by decide +kernel
theorem dL_law_1136 : decode cL_law 1136 = .ok (.iload 4, 2) := by decide +kernel
theorem dL_law_1138 : decode cL_law 1138 = .ok (.iconst 3, 1) := by decide +kernel
theorem dL_law_1139 : decode cL_law 1139 = .ok (.iadd, 1) := by decide +kernel
theorem dL_law_1140 : decode cL_law 1140 = .ok (.iaload, 1) := by decide +kernel
theorem dL_law_1141 : decode cL_law 1141 = .ok (.aload_n 3, 1) := by decide +kernel
theorem dL_law_1142 : decode cL_law 1142 = .ok (.invokestatic 219, 3) := by decide +kernel
theorem dL_law_1145 : decode cL_law 1145 = .ok (.istore 5, 2) := by decide +kernel
theorem dL_law_1147 : decode cL_law 1147 = .ok (.aload_n 2, 1) := by decide +kernel
theorem dL_law_1148 : decode cL_law 1148 = .ok (.aload_n 0, 1) := by decide +kernel
theorem dL_law_1149 : decode cL_law 1149 = .ok (.iload 4, 2) := by decide +kernel
theorem dL_law_1151 : decode cL_law 1151 = .ok (.iconst 1, 1) := by decide +kernel
theorem dL_law_1152 : decode cL_law 1152 = .ok (.iadd, 1) := by decide +kernel
theorem dL_law_1153 : decode cL_law 1153 = .ok (.iaload, 1) := by decide +kernel
theorem dL_law_1154 : decode cL_law 1154 = .ok (.aload_n 0, 1) := by decide +kernel
theorem dL_law_1155 : decode cL_law 1155 = .ok (.iload 4, 2) := by decide +kernel
theorem dL_law_1157 : decode cL_law 1157 = .ok (.iconst 2, 1) := by decide +kernel
theorem dL_law_1158 : decode cL_law 1158 = .ok (.iadd, 1) := by decide +kernel
theorem dL_law_1159 : decode cL_law 1159 = .ok (.iaload, 1) := by decide +kernel
theorem dL_law_1160 : decode cL_law 1160 = .ok (.aload_n 0, 1) := by decide +kernel
theorem dL_law_1161 : decode cL_law 1161 = .ok (.iload 4, 2) := by decide +kernel
theorem dL_law_1163 : decode cL_law 1163 = .ok (.iconst 3, 1) := by decide +kernel
theorem dL_law_1164 : decode cL_law 1164 = .ok (.iadd, 1) := by decide +kernel
theorem dL_law_1165 : decode cL_law 1165 = .ok (.iaload, 1) := by decide +kernel
theorem dL_law_1166 : decode cL_law 1166 = .ok (.invokevirtual 221, 3) := by decide +kernel
theorem dL_law_1169 : decode cL_law 1169 = .ok (.istore 6, 2) := by decide +kernel
theorem dL_law_1171 : decode cL_law 1171 = .ok (.aload_n 2, 1) := by decide +kernel
theorem dL_law_1172 : decode cL_law 1172 = .ok (.invokevirtual 169, 3) := by decide +kernel
theorem dL_law_1175 : decode cL_law 1175 = .ok (.iload 5, 2) := by decide +kernel
theorem dL_law_1177 : decode cL_law 1177 = .ok (.if_icmp .eq 5, 3) := by decide +kernel
theorem dL_law_1182 : decode cL_law 1182 = .ok (.iload 5, 2) := by decide +kernel
theorem dL_law_1184 : decode cL_law 1184 = .ok (.ifCond .ne 15, 3) := by decide +kernel
theorem dL_law_1199 : decode cL_law 1199 = .ok (.goto 1802, 3) := by decide +kernel
theorem dL_law_1187 : decode cL_law 1187 = .ok (.aload_n 3, 1) := by decide +kernel
theorem dL_law_1188 : decode cL_law 1188 = .ok (.iconst 0, 1) := by decide +kernel
theorem dL_law_1189 : decode cL_law 1189 = .ok (.laload, 1) := by decide +kernel
theorem dL_law_1190 : decode cL_law 1190 = .ok (.iload 6, 2) := by decide +kernel
theorem dL_law_1192 : decode cL_law 1192 = .ok (.i2l, 1) := by decide +kernel
theorem dL_law_1193 : decode cL_law 1193 = .ok (.lcmp, 1) := by decide +kernel
theorem dL_law_1194 : decode cL_law 1194 = .ok (.ifCond .eq 5, 3) := by decide +kernel
theorem dL_law_1202 : decode cL_law 1202 = .ok (.aload_n 1, 1) := by decide +kernel
theorem dL_law_1203 : decode cL_law 1203 = .ok (.aload_n 0, 1) := by decide +kernel
theorem dL_law_1204 : decode cL_law 1204 = .ok (.iload 4, 2) := by decide +kernel
theorem dL_law_1206 : decode cL_law 1206 = .ok (.iconst 1, 1) := by decide +kernel
theorem dL_law_1207 : decode cL_law 1207 = .ok (.iadd, 1) := by decide +kernel
theorem dL_law_1208 : decode cL_law 1208 = .ok (.iaload, 1) := by decide +kernel
theorem dL_law_1209 : decode cL_law 1209 = .ok (.aload_n 3, 1) := by decide +kernel
theorem dL_law_1210 : decode cL_law 1210 = .ok (.invokestatic 222, 3) := by decide +kernel
theorem dL_law_1213 : decode cL_law 1213 = .ok (.istore 5, 2) := by decide +kernel
theorem dL_law_1215 : decode cL_law 1215 = .ok (.aload_n 2, 1) := by decide +kernel
theorem dL_law_1216 : decode cL_law 1216 = .ok (.aload_n 0, 1) := by decide +kernel
theorem dL_law_1217 : decode cL_law 1217 = .ok (.iload 4, 2) := by decide +kernel
theorem dL_law_1219 : decode cL_law 1219 = .ok (.iconst 1, 1) := by decide +kernel
theorem dL_law_1220 : decode cL_law 1220 = .ok (.iadd, 1) := by decide +kernel
theorem dL_law_1221 : decode cL_law 1221 = .ok (.iaload, 1) := by decide +kernel
theorem dL_law_1222 : decode cL_law 1222 = .ok (.invokevirtual 224, 3) := by decide +kernel
theorem dL_law_1225 : decode cL_law 1225 = .ok (.istore 6, 2) := by decide +kernel
theorem dL_law_1227 : decode cL_law 1227 = .ok (.aload_n 2, 1) := by decide +kernel
theorem dL_law_1228 : decode cL_law 1228 = .ok (.invokevirtual 169, 3) := by decide +kernel
theorem dL_law_1231 : decode cL_law 1231 = .ok (.iload 5, 2) := by decide +kernel
theorem dL_law_1233 : decode cL_law 1233 = .ok (.if_icmp .eq 5, 3) := by decide +kernel
theorem dL_law_1238 : decode cL_law 1238 = .ok (.iload 5, 2) := by decide +kernel
theorem dL_law_1240 : decode cL_law 1240 = .ok (.ifCond .ne 15, 3) := by decide +kernel
theorem dL_law_1255 : decode cL_law 1255 = .ok (.goto 1746, 3) := by decide +kernel
theorem dL_law_1243 : decode cL_law 1243 = .ok (.aload_n 3, 1) := by decide +kernel
theorem dL_law_1244 : decode cL_law 1244 = .ok (.iconst 0, 1) := by decide +kernel
theorem dL_law_1245 : decode cL_law 1245 = .ok (.laload, 1) := by decide +kernel
theorem dL_law_1246 : decode cL_law 1246 = .ok (.iload 6, 2) := by decide +kernel
theorem dL_law_1248 : decode cL_law 1248 = .ok (.i2l, 1) := by decide +kernel
theorem dL_law_1249 : decode cL_law 1249 = .ok (.lcmp, 1) := by decide +kernel
theorem dL_law_1250 : decode cL_law 1250 = .ok (.ifCond .eq 5, 3) := by decide +kernel
theorem dL_law_1258 : decode cL_law 1258 = .ok (.aload_n 1, 1) := by decide +kernel
theorem dL_law_1259 : decode cL_law 1259 = .ok (.aload_n 3, 1) := by decide +kernel
theorem dL_law_1260 : decode cL_law 1260 = .ok (.invokestatic 225, 3) := by decide +kernel
theorem dL_law_1263 : decode cL_law 1263 = .ok (.istore 5, 2) := by decide +kernel
theorem dL_law_1265 : decode cL_law 1265 = .ok (.aload_n 2, 1) := by decide +kernel
theorem dL_law_1266 : decode cL_law 1266 = .ok (.invokevirtual 228, 3) := by decide +kernel
theorem dL_law_1269 : decode cL_law 1269 = .ok (.istore 6, 2) := by decide +kernel
theorem dL_law_1271 : decode cL_law 1271 = .ok (.aload_n 2, 1) := by decide +kernel
theorem dL_law_1272 : decode cL_law 1272 = .ok (.invokevirtual 169, 3) := by decide +kernel
theorem dL_law_1275 : decode cL_law 1275 = .ok (.iload 5, 2) := by decide +kernel
theorem dL_law_1277 : decode cL_law 1277 = .ok (.if_icmp .eq 5, 3) := by decide +kernel
theorem dL_law_1282 : decode cL_law 1282 = .ok (.iload 5, 2) := by decide +kernel
theorem dL_law_1284 : decode cL_law 1284 = .ok (.ifCond .ne 15, 3) := by decide +kernel
theorem dL_law_1299 : decode cL_law 1299 = .ok (.goto 1702, 3) := by decide +kernel
theorem dL_law_1287 : decode cL_law 1287 = .ok (.aload_n 3, 1) := by decide +kernel
theorem dL_law_1288 : decode cL_law 1288 = .ok (.iconst 0, 1) := by decide +kernel
theorem dL_law_1289 : decode cL_law 1289 = .ok (.laload, 1) := by decide +kernel
theorem dL_law_1290 : decode cL_law 1290 = .ok (.iload 6, 2) := by decide +kernel
theorem dL_law_1292 : decode cL_law 1292 = .ok (.i2l, 1) := by decide +kernel
theorem dL_law_1293 : decode cL_law 1293 = .ok (.lcmp, 1) := by decide +kernel
theorem dL_law_1294 : decode cL_law 1294 = .ok (.ifCond .eq 5, 3) := by decide +kernel
theorem dL_law_1302 : decode cL_law 1302 = .ok (.aload_n 1, 1) := by decide +kernel
theorem dL_law_1303 : decode cL_law 1303 = .ok (.aload_n 3, 1) := by decide +kernel
theorem dL_law_1304 : decode cL_law 1304 = .ok (.invokestatic 229, 3) := by decide +kernel
theorem dL_law_1307 : decode cL_law 1307 = .ok (.istore 5, 2) := by decide +kernel
theorem dL_law_1309 : decode cL_law 1309 = .ok (.aload_n 2, 1) := by decide +kernel
theorem dL_law_1310 : decode cL_law 1310 = .ok (.invokevirtual 231, 3) := by decide +kernel
theorem dL_law_1313 : decode cL_law 1313 = .ok (.istore 6, 2) := by decide +kernel
theorem dL_law_1315 : decode cL_law 1315 = .ok (.aload_n 2, 1) := by decide +kernel
theorem dL_law_1316 : decode cL_law 1316 = .ok (.invokevirtual 169, 3) := by decide +kernel
theorem dL_law_1319 : decode cL_law 1319 = .ok (.iload 5, 2) := by decide +kernel
theorem dL_law_1321 : decode cL_law 1321 = .ok (.if_icmp .eq 5, 3) := by decide +kernel
theorem dL_law_1326 : decode cL_law 1326 = .ok (.iload 5, 2) := by decide +kernel
theorem dL_law_1328 : decode cL_law 1328 = .ok (.ifCond .ne 15, 3) := by decide +kernel
theorem dL_law_1343 : decode cL_law 1343 = .ok (.goto 1658, 3) := by decide +kernel
theorem dL_law_1331 : decode cL_law 1331 = .ok (.aload_n 3, 1) := by decide +kernel
theorem dL_law_1332 : decode cL_law 1332 = .ok (.iconst 0, 1) := by decide +kernel
theorem dL_law_1333 : decode cL_law 1333 = .ok (.laload, 1) := by decide +kernel
theorem dL_law_1334 : decode cL_law 1334 = .ok (.iload 6, 2) := by decide +kernel
theorem dL_law_1336 : decode cL_law 1336 = .ok (.i2l, 1) := by decide +kernel
theorem dL_law_1337 : decode cL_law 1337 = .ok (.lcmp, 1) := by decide +kernel
theorem dL_law_1338 : decode cL_law 1338 = .ok (.ifCond .eq 5, 3) := by decide +kernel
theorem dL_law_1346 : decode cL_law 1346 = .ok (.aload_n 1, 1) := by decide +kernel
theorem dL_law_1347 : decode cL_law 1347 = .ok (.aload_n 3, 1) := by decide +kernel
theorem dL_law_1348 : decode cL_law 1348 = .ok (.invokestatic 232, 3) := by decide +kernel
theorem dL_law_1351 : decode cL_law 1351 = .ok (.istore 5, 2) := by decide +kernel
theorem dL_law_1353 : decode cL_law 1353 = .ok (.aload_n 2, 1) := by decide +kernel
theorem dL_law_1354 : decode cL_law 1354 = .ok (.invokevirtual 234, 3) := by decide +kernel
theorem dL_law_1357 : decode cL_law 1357 = .ok (.istore 6, 2) := by decide +kernel
theorem dL_law_1359 : decode cL_law 1359 = .ok (.aload_n 2, 1) := by decide +kernel
theorem dL_law_1360 : decode cL_law 1360 = .ok (.invokevirtual 169, 3) := by decide +kernel
theorem dL_law_1363 : decode cL_law 1363 = .ok (.iload 5, 2) := by decide +kernel
theorem dL_law_1365 : decode cL_law 1365 = .ok (.if_icmp .eq 5, 3) := by decide +kernel
theorem dL_law_1370 : decode cL_law 1370 = .ok (.iload 5, 2) := by decide +kernel
theorem dL_law_1372 : decode cL_law 1372 = .ok (.ifCond .ne 15, 3) := by decide +kernel
theorem dL_law_1387 : decode cL_law 1387 = .ok (.goto 1614, 3) := by decide +kernel
theorem dL_law_1375 : decode cL_law 1375 = .ok (.aload_n 3, 1) := by decide +kernel
theorem dL_law_1376 : decode cL_law 1376 = .ok (.iconst 0, 1) := by decide +kernel
theorem dL_law_1377 : decode cL_law 1377 = .ok (.laload, 1) := by decide +kernel
theorem dL_law_1378 : decode cL_law 1378 = .ok (.iload 6, 2) := by decide +kernel
theorem dL_law_1380 : decode cL_law 1380 = .ok (.i2l, 1) := by decide +kernel
theorem dL_law_1381 : decode cL_law 1381 = .ok (.lcmp, 1) := by decide +kernel
theorem dL_law_1382 : decode cL_law 1382 = .ok (.ifCond .eq 5, 3) := by decide +kernel
theorem dL_law_1390 : decode cL_law 1390 = .ok (.aload_n 1, 1) := by decide +kernel
theorem dL_law_1391 : decode cL_law 1391 = .ok (.aload_n 0, 1) := by decide +kernel
theorem dL_law_1392 : decode cL_law 1392 = .ok (.iload 4, 2) := by decide +kernel
theorem dL_law_1394 : decode cL_law 1394 = .ok (.iconst 1, 1) := by decide +kernel
theorem dL_law_1395 : decode cL_law 1395 = .ok (.iadd, 1) := by decide +kernel
theorem dL_law_1396 : decode cL_law 1396 = .ok (.iaload, 1) := by decide +kernel
theorem dL_law_1397 : decode cL_law 1397 = .ok (.aload_n 3, 1) := by decide +kernel
theorem dL_law_1398 : decode cL_law 1398 = .ok (.invokestatic 235, 3) := by decide +kernel
theorem dL_law_1401 : decode cL_law 1401 = .ok (.istore 5, 2) := by decide +kernel
theorem dL_law_1403 : decode cL_law 1403 = .ok (.aload_n 2, 1) := by decide +kernel
theorem dL_law_1404 : decode cL_law 1404 = .ok (.aload_n 0, 1) := by decide +kernel
theorem dL_law_1405 : decode cL_law 1405 = .ok (.iload 4, 2) := by decide +kernel
theorem dL_law_1407 : decode cL_law 1407 = .ok (.iconst 1, 1) := by decide +kernel
theorem dL_law_1408 : decode cL_law 1408 = .ok (.iadd, 1) := by decide +kernel
theorem dL_law_1409 : decode cL_law 1409 = .ok (.iaload, 1) := by decide +kernel
theorem dL_law_1410 : decode cL_law 1410 = .ok (.invokevirtual 237, 3) := by decide +kernel
theorem dL_law_1413 : decode cL_law 1413 = .ok (.istore 6, 2) := by decide +kernel
theorem dL_law_1415 : decode cL_law 1415 = .ok (.aload_n 2, 1) := by decide +kernel
theorem dL_law_1416 : decode cL_law 1416 = .ok (.invokevirtual 169, 3) := by decide +kernel
theorem dL_law_1419 : decode cL_law 1419 = .ok (.iload 5, 2) := by decide +kernel
theorem dL_law_1421 : decode cL_law 1421 = .ok (.if_icmp .eq 5, 3) := by decide +kernel
theorem dL_law_1426 : decode cL_law 1426 = .ok (.iload 5, 2) := by decide +kernel
theorem dL_law_1428 : decode cL_law 1428 = .ok (.ifCond .ne 15, 3) := by decide +kernel
theorem dL_law_1443 : decode cL_law 1443 = .ok (.goto 1558, 3) := by decide +kernel
theorem dL_law_1431 : decode cL_law 1431 = .ok (.aload_n 3, 1) := by decide +kernel
theorem dL_law_1432 : decode cL_law 1432 = .ok (.iconst 0, 1) := by decide +kernel
theorem dL_law_1433 : decode cL_law 1433 = .ok (.laload, 1) := by decide +kernel
theorem dL_law_1434 : decode cL_law 1434 = .ok (.iload 6, 2) := by decide +kernel
theorem dL_law_1436 : decode cL_law 1436 = .ok (.i2l, 1) := by decide +kernel
theorem dL_law_1437 : decode cL_law 1437 = .ok (.lcmp, 1) := by decide +kernel
theorem dL_law_1438 : decode cL_law 1438 = .ok (.ifCond .eq 5, 3) := by decide +kernel
theorem dL_law_1446 : decode cL_law 1446 = .ok (.aload_n 1, 1) := by decide +kernel
theorem dL_law_1447 : decode cL_law 1447 = .ok (.aload_n 0, 1) := by decide +kernel
theorem dL_law_1448 : decode cL_law 1448 = .ok (.iload 4, 2) := by decide +kernel
theorem dL_law_1450 : decode cL_law 1450 = .ok (.iconst 1, 1) := by decide +kernel
theorem dL_law_1451 : decode cL_law 1451 = .ok (.iadd, 1) := by decide +kernel
theorem dL_law_1452 : decode cL_law 1452 = .ok (.iaload, 1) := by decide +kernel
theorem dL_law_1453 : decode cL_law 1453 = .ok (.aload_n 0, 1) := by decide +kernel
theorem dL_law_1454 : decode cL_law 1454 = .ok (.iload 4, 2) := by decide +kernel
theorem dL_law_1456 : decode cL_law 1456 = .ok (.iconst 2, 1) := by decide +kernel
theorem dL_law_1457 : decode cL_law 1457 = .ok (.iadd, 1) := by decide +kernel
theorem dL_law_1458 : decode cL_law 1458 = .ok (.iaload, 1) := by decide +kernel
theorem dL_law_1459 : decode cL_law 1459 = .ok (.aload_n 0, 1) := by decide +kernel
theorem dL_law_1460 : decode cL_law 1460 = .ok (.iload 4, 2) := by decide +kernel
theorem dL_law_1462 : decode cL_law 1462 = .ok (.iconst 3, 1) := by decide +kernel
theorem dL_law_1463 : decode cL_law 1463 = .ok (.iadd, 1) := by decide +kernel
theorem dL_law_1464 : decode cL_law 1464 = .ok (.iaload, 1) := by decide +kernel
theorem dL_law_1465 : decode cL_law 1465 = .ok (.aload_n 3, 1) := by decide +kernel
theorem dL_law_1466 : decode cL_law 1466 = .ok (.invokestatic 238, 3) := by decide +kernel
theorem dL_law_1469 : decode cL_law 1469 = .ok (.istore 5, 2) := by decide +kernel
theorem dL_law_1471 : decode cL_law 1471 = .ok (.aload_n 2, 1) := by decide +kernel
theorem dL_law_1472 : decode cL_law 1472 = .ok (.aload_n 0, 1) := by decide +kernel
theorem dL_law_1473 : decode cL_law 1473 = .ok (.iload 4, 2) := by decide +kernel
theorem dL_law_1475 : decode cL_law 1475 = .ok (.iconst 1, 1) := by decide +kernel
theorem dL_law_1476 : decode cL_law 1476 = .ok (.iadd, 1) := by decide +kernel
theorem dL_law_1477 : decode cL_law 1477 = .ok (.iaload, 1) := by decide +kernel
theorem dL_law_1478 : decode cL_law 1478 = .ok (.aload_n 0, 1) := by decide +kernel
theorem dL_law_1479 : decode cL_law 1479 = .ok (.iload 4, 2) := by decide +kernel
theorem dL_law_1481 : decode cL_law 1481 = .ok (.iconst 2, 1) := by decide +kernel
theorem dL_law_1482 : decode cL_law 1482 = .ok (.iadd, 1) := by decide +kernel
theorem dL_law_1483 : decode cL_law 1483 = .ok (.iaload, 1) := by decide +kernel
theorem dL_law_1484 : decode cL_law 1484 = .ok (.aload_n 0, 1) := by decide +kernel
theorem dL_law_1485 : decode cL_law 1485 = .ok (.iload 4, 2) := by decide +kernel
theorem dL_law_1487 : decode cL_law 1487 = .ok (.iconst 3, 1) := by decide +kernel
theorem dL_law_1488 : decode cL_law 1488 = .ok (.iadd, 1) := by decide +kernel
theorem dL_law_1489 : decode cL_law 1489 = .ok (.iaload, 1) := by decide +kernel
theorem dL_law_1490 : decode cL_law 1490 = .ok (.invokevirtual 240, 3) := by decide +kernel
theorem dL_law_1493 : decode cL_law 1493 = .ok (.istore 6, 2) := by decide +kernel
theorem dL_law_1495 : decode cL_law 1495 = .ok (.aload_n 2, 1) := by decide +kernel
theorem dL_law_1496 : decode cL_law 1496 = .ok (.invokevirtual 169, 3) := by decide +kernel
theorem dL_law_1499 : decode cL_law 1499 = .ok (.iload 5, 2) := by decide +kernel
theorem dL_law_1501 : decode cL_law 1501 = .ok (.if_icmp .eq 5, 3) := by decide +kernel
theorem dL_law_1506 : decode cL_law 1506 = .ok (.iload 5, 2) := by decide +kernel
theorem dL_law_1508 : decode cL_law 1508 = .ok (.ifCond .ne 15, 3) := by decide +kernel
theorem dL_law_1523 : decode cL_law 1523 = .ok (.goto 1478, 3) := by decide +kernel
theorem dL_law_1511 : decode cL_law 1511 = .ok (.aload_n 3, 1) := by decide +kernel
theorem dL_law_1512 : decode cL_law 1512 = .ok (.iconst 0, 1) := by decide +kernel
theorem dL_law_1513 : decode cL_law 1513 = .ok (.laload, 1) := by decide +kernel
theorem dL_law_1514 : decode cL_law 1514 = .ok (.iload 6, 2) := by decide +kernel
theorem dL_law_1516 : decode cL_law 1516 = .ok (.i2l, 1) := by decide +kernel
theorem dL_law_1517 : decode cL_law 1517 = .ok (.lcmp, 1) := by decide +kernel
theorem dL_law_1518 : decode cL_law 1518 = .ok (.ifCond .eq 5, 3) := by decide +kernel
theorem dL_law_1526 : decode cL_law 1526 = .ok (.aload_n 1, 1) := by decide +kernel
theorem dL_law_1527 : decode cL_law 1527 = .ok (.aload_n 0, 1) := by decide +kernel
theorem dL_law_1528 : decode cL_law 1528 = .ok (.iload 4, 2) := by decide +kernel
theorem dL_law_1530 : decode cL_law 1530 = .ok (.iconst 1, 1) := by decide +kernel
theorem dL_law_1531 : decode cL_law 1531 = .ok (.iadd, 1) := by decide +kernel
theorem dL_law_1532 : decode cL_law 1532 = .ok (.iaload, 1) := by decide +kernel
theorem dL_law_1533 : decode cL_law 1533 = .ok (.aload_n 3, 1) := by decide +kernel
theorem dL_law_1534 : decode cL_law 1534 = .ok (.invokestatic 241, 3) := by decide +kernel
theorem dL_law_1537 : decode cL_law 1537 = .ok (.istore 5, 2) := by decide +kernel
theorem dL_law_1539 : decode cL_law 1539 = .ok (.aload_n 2, 1) := by decide +kernel
theorem dL_law_1540 : decode cL_law 1540 = .ok (.aload_n 0, 1) := by decide +kernel
theorem dL_law_1541 : decode cL_law 1541 = .ok (.iload 4, 2) := by decide +kernel
theorem dL_law_1543 : decode cL_law 1543 = .ok (.iconst 1, 1) := by decide +kernel
theorem dL_law_1544 : decode cL_law 1544 = .ok (.iadd, 1) := by decide +kernel
theorem dL_law_1545 : decode cL_law 1545 = .ok (.iaload, 1) := by decide +kernel
theorem dL_law_1546 : decode cL_law 1546 = .ok (.invokevirtual 243, 3) := by decide +kernel
theorem dL_law_1549 : decode cL_law 1549 = .ok (.istore 6, 2) := by decide +kernel
theorem dL_law_1551 : decode cL_law 1551 = .ok (.aload_n 2, 1) := by decide +kernel
theorem dL_law_1552 : decode cL_law 1552 = .ok (.invokevirtual 169, 3) := by decide +kernel
theorem dL_law_1555 : decode cL_law 1555 = .ok (.iload 5, 2) := by decide +kernel
theorem dL_law_1557 : decode cL_law 1557 = .ok (.if_icmp .eq 5, 3) := by decide +kernel
theorem dL_law_1562 : decode cL_law 1562 = .ok (.iload 5, 2) := by decide +kernel
theorem dL_law_1564 : decode cL_law 1564 = .ok (.ifCond .ne 15, 3) := by decide +kernel
theorem dL_law_1579 : decode cL_law 1579 = .ok (.goto 1422, 3) := by decide +kernel
theorem dL_law_1567 : decode cL_law 1567 = .ok (.aload_n 3, 1) := by decide +kernel
theorem dL_law_1568 : decode cL_law 1568 = .ok (.iconst 0, 1) := by decide +kernel
theorem dL_law_1569 : decode cL_law 1569 = .ok (.laload, 1) := by decide +kernel
theorem dL_law_1570 : decode cL_law 1570 = .ok (.iload 6, 2) := by decide +kernel
theorem dL_law_1572 : decode cL_law 1572 = .ok (.i2l, 1) := by decide +kernel
theorem dL_law_1573 : decode cL_law 1573 = .ok (.lcmp, 1) := by decide +kernel
theorem dL_law_1574 : decode cL_law 1574 = .ok (.ifCond .eq 5, 3) := by decide +kernel
theorem dL_law_1582 : decode cL_law 1582 = .ok (.aload_n 1, 1) := by decide +kernel
theorem dL_law_1583 : decode cL_law 1583 = .ok (.aload_n 0, 1) := by decide +kernel
theorem dL_law_1584 : decode cL_law 1584 = .ok (.iload 4, 2) := by decide +kernel
theorem dL_law_1586 : decode cL_law 1586 = .ok (.iconst 1, 1) := by decide +kernel
theorem dL_law_1587 : decode cL_law 1587 = .ok (.iadd, 1) := by decide +kernel
theorem dL_law_1588 : decode cL_law 1588 = .ok (.iaload, 1) := by decide +kernel
theorem dL_law_1589 : decode cL_law 1589 = .ok (.aload_n 0, 1) := by decide +kernel
theorem dL_law_1590 : decode cL_law 1590 = .ok (.iload 4, 2) := by decide +kernel
theorem dL_law_1592 : decode cL_law 1592 = .ok (.iconst 2, 1) := by decide +kernel
theorem dL_law_1593 : decode cL_law 1593 = .ok (.iadd, 1) := by decide +kernel
theorem dL_law_1594 : decode cL_law 1594 = .ok (.iaload, 1) := by decide +kernel
theorem dL_law_1595 : decode cL_law 1595 = .ok (.aload_n 3, 1) := by decide +kernel
theorem dL_law_1596 : decode cL_law 1596 = .ok (.invokestatic 244, 3) := by decide +kernel
theorem dL_law_1599 : decode cL_law 1599 = .ok (.istore 5, 2) := by decide +kernel
theorem dL_law_1601 : decode cL_law 1601 = .ok (.aload_n 2, 1) := by decide +kernel
theorem dL_law_1602 : decode cL_law 1602 = .ok (.aload_n 0, 1) := by decide +kernel
theorem dL_law_1603 : decode cL_law 1603 = .ok (.iload 4, 2) := by decide +kernel
theorem dL_law_1605 : decode cL_law 1605 = .ok (.iconst 1, 1) := by decide +kernel
theorem dL_law_1606 : decode cL_law 1606 = .ok (.iadd, 1) := by decide +kernel
theorem dL_law_1607 : decode cL_law 1607 = .ok (.iaload, 1) := by decide +kernel
theorem dL_law_1608 : decode cL_law 1608 = .ok (.aload_n 0, 1) := by decide +kernel
theorem dL_law_1609 : decode cL_law 1609 = .ok (.iload 4, 2) := by decide +kernel
theorem dL_law_1611 : decode cL_law 1611 = .ok (.iconst 2, 1) := by decide +kernel
theorem dL_law_1612 : decode cL_law 1612 = .ok (.iadd, 1) := by decide +kernel
theorem dL_law_1613 : decode cL_law 1613 = .ok (.iaload, 1) := by decide +kernel
theorem dL_law_1614 : decode cL_law 1614 = .ok (.invokevirtual 246, 3) := by decide +kernel
theorem dL_law_1617 : decode cL_law 1617 = .ok (.istore 6, 2) := by decide +kernel
theorem dL_law_1619 : decode cL_law 1619 = .ok (.aload_n 2, 1) := by decide +kernel
theorem dL_law_1620 : decode cL_law 1620 = .ok (.invokevirtual 169, 3) := by decide +kernel
theorem dL_law_1623 : decode cL_law 1623 = .ok (.iload 5, 2) := by decide +kernel
theorem dL_law_1625 : decode cL_law 1625 = .ok (.if_icmp .eq 5, 3) := by decide +kernel
theorem dL_law_1630 : decode cL_law 1630 = .ok (.iload 5, 2) := by decide +kernel
theorem dL_law_1632 : decode cL_law 1632 = .ok (.ifCond .ne 15, 3) := by decide +kernel
theorem dL_law_1647 : decode cL_law 1647 = .ok (.goto 1354, 3) := by decide +kernel
theorem dL_law_1635 : decode cL_law 1635 = .ok (.aload_n 3, 1) := by decide +kernel
theorem dL_law_1636 : decode cL_law 1636 = .ok (.iconst 0, 1) := by decide +kernel
theorem dL_law_1637 : decode cL_law 1637 = .ok (.laload, 1) := by decide +kernel
theorem dL_law_1638 : decode cL_law 1638 = .ok (.iload 6, 2) := by decide +kernel
theorem dL_law_1640 : decode cL_law 1640 = .ok (.i2l, 1) := by decide +kernel
theorem dL_law_1641 : decode cL_law 1641 = .ok (.lcmp, 1) := by decide +kernel
theorem dL_law_1642 : decode cL_law 1642 = .ok (.ifCond .eq 5, 3) := by decide +kernel
theorem dL_law_1650 : decode cL_law 1650 = .ok (.aload_n 1, 1) := by decide +kernel
theorem dL_law_1651 : decode cL_law 1651 = .ok (.aload_n 0, 1) := by decide +kernel
theorem dL_law_1652 : decode cL_law 1652 = .ok (.iload 4, 2) := by decide +kernel
theorem dL_law_1654 : decode cL_law 1654 = .ok (.iconst 1, 1) := by decide +kernel
theorem dL_law_1655 : decode cL_law 1655 = .ok (.iadd, 1) := by decide +kernel
theorem dL_law_1656 : decode cL_law 1656 = .ok (.iaload, 1) := by decide +kernel
theorem dL_law_1657 : decode cL_law 1657 = .ok (.aload_n 0, 1) := by decide +kernel
theorem dL_law_1658 : decode cL_law 1658 = .ok (.iload 4, 2) := by decide +kernel
theorem dL_law_1660 : decode cL_law 1660 = .ok (.iconst 2, 1) := by decide +kernel
theorem dL_law_1661 : decode cL_law 1661 = .ok (.iadd, 1) := by decide +kernel
theorem dL_law_1662 : decode cL_law 1662 = .ok (.iaload, 1) := by decide +kernel
theorem dL_law_1663 : decode cL_law 1663 = .ok (.aload_n 0, 1) := by decide +kernel
theorem dL_law_1664 : decode cL_law 1664 = .ok (.iload 4, 2) := by decide +kernel
theorem dL_law_1666 : decode cL_law 1666 = .ok (.iconst 3, 1) := by decide +kernel
theorem dL_law_1667 : decode cL_law 1667 = .ok (.iadd, 1) := by decide +kernel
theorem dL_law_1668 : decode cL_law 1668 = .ok (.iaload, 1) := by decide +kernel
theorem dL_law_1669 : decode cL_law 1669 = .ok (.aload_n 3, 1) := by decide +kernel
theorem dL_law_1670 : decode cL_law 1670 = .ok (.invokestatic 247, 3) := by decide +kernel
theorem dL_law_1673 : decode cL_law 1673 = .ok (.istore 5, 2) := by decide +kernel
theorem dL_law_1675 : decode cL_law 1675 = .ok (.aload_n 2, 1) := by decide +kernel
theorem dL_law_1676 : decode cL_law 1676 = .ok (.aload_n 0, 1) := by decide +kernel
theorem dL_law_1677 : decode cL_law 1677 = .ok (.iload 4, 2) := by decide +kernel
theorem dL_law_1679 : decode cL_law 1679 = .ok (.iconst 1, 1) := by decide +kernel
theorem dL_law_1680 : decode cL_law 1680 = .ok (.iadd, 1) := by decide +kernel
theorem dL_law_1681 : decode cL_law 1681 = .ok (.iaload, 1) := by decide +kernel
theorem dL_law_1682 : decode cL_law 1682 = .ok (.aload_n 0, 1) := by decide +kernel
theorem dL_law_1683 : decode cL_law 1683 = .ok (.iload 4, 2) := by decide +kernel
theorem dL_law_1685 : decode cL_law 1685 = .ok (.iconst 2, 1) := by decide +kernel
theorem dL_law_1686 : decode cL_law 1686 = .ok (.iadd, 1) := by decide +kernel
theorem dL_law_1687 : decode cL_law 1687 = .ok (.iaload, 1) := by decide +kernel
theorem dL_law_1688 : decode cL_law 1688 = .ok (.aload_n 0, 1) := by decide +kernel
theorem dL_law_1689 : decode cL_law 1689 = .ok (.iload 4, 2) := by decide +kernel
theorem dL_law_1691 : decode cL_law 1691 = .ok (.iconst 3, 1) := by decide +kernel
theorem dL_law_1692 : decode cL_law 1692 = .ok (.iadd, 1) := by decide +kernel
theorem dL_law_1693 : decode cL_law 1693 = .ok (.iaload, 1) := by decide +kernel
theorem dL_law_1694 : decode cL_law 1694 = .ok (.invokevirtual 249, 3) := by decide +kernel
theorem dL_law_1697 : decode cL_law 1697 = .ok (.istore 6, 2) := by decide +kernel
theorem dL_law_1699 : decode cL_law 1699 = .ok (.aload_n 2, 1) := by decide +kernel
theorem dL_law_1700 : decode cL_law 1700 = .ok (.invokevirtual 169, 3) := by decide +kernel
theorem dL_law_1703 : decode cL_law 1703 = .ok (.iload 5, 2) := by decide +kernel
theorem dL_law_1705 : decode cL_law 1705 = .ok (.if_icmp .eq 5, 3) := by decide +kernel
theorem dL_law_1710 : decode cL_law 1710 = .ok (.iload 5, 2) := by decide +kernel
theorem dL_law_1712 : decode cL_law 1712 = .ok (.ifCond .ne 15, 3) := by decide +kernel
theorem dL_law_1727 : decode cL_law 1727 = .ok (.goto 1274, 3) := by decide +kernel
theorem dL_law_1715 : decode cL_law 1715 = .ok (.aload_n 3, 1) := by decide +kernel
theorem dL_law_1716 : decode cL_law 1716 = .ok (.iconst 0, 1) := by decide +kernel
theorem dL_law_1717 : decode cL_law 1717 = .ok (.laload, 1) := by decide +kernel
theorem dL_law_1718 : decode cL_law 1718 = .ok (.iload 6, 2) := by decide +kernel
theorem dL_law_1720 : decode cL_law 1720 = .ok (.i2l, 1) := by decide +kernel
theorem dL_law_1721 : decode cL_law 1721 = .ok (.lcmp, 1) := by decide +kernel
theorem dL_law_1722 : decode cL_law 1722 = .ok (.ifCond .eq 5, 3) := by decide +kernel
theorem dL_law_1730 : decode cL_law 1730 = .ok (.aload_n 1, 1) := by decide +kernel
theorem dL_law_1731 : decode cL_law 1731 = .ok (.aload_n 3, 1) := by decide +kernel
theorem dL_law_1732 : decode cL_law 1732 = .ok (.invokestatic 250, 3) := by decide +kernel
theorem dL_law_1735 : decode cL_law 1735 = .ok (.istore 5, 2) := by decide +kernel
theorem dL_law_1737 : decode cL_law 1737 = .ok (.aload_n 2, 1) := by decide +kernel
theorem dL_law_1738 : decode cL_law 1738 = .ok (.invokevirtual 252, 3) := by decide +kernel
theorem dL_law_1741 : decode cL_law 1741 = .ok (.istore 6, 2) := by decide +kernel
theorem dL_law_1743 : decode cL_law 1743 = .ok (.aload_n 2, 1) := by decide +kernel
theorem dL_law_1744 : decode cL_law 1744 = .ok (.invokevirtual 169, 3) := by decide +kernel
theorem dL_law_1747 : decode cL_law 1747 = .ok (.iload 5, 2) := by decide +kernel
theorem dL_law_1749 : decode cL_law 1749 = .ok (.if_icmp .eq 5, 3) := by decide +kernel
theorem dL_law_1754 : decode cL_law 1754 = .ok (.iload 5, 2) := by decide +kernel
theorem dL_law_1756 : decode cL_law 1756 = .ok (.ifCond .ne 15, 3) := by decide +kernel
theorem dL_law_1771 : decode cL_law 1771 = .ok (.goto 1230, 3) := by decide +kernel
theorem dL_law_1759 : decode cL_law 1759 = .ok (.aload_n 3, 1) := by decide +kernel
theorem dL_law_1760 : decode cL_law 1760 = .ok (.iconst 0, 1) := by decide +kernel
theorem dL_law_1761 : decode cL_law 1761 = .ok (.laload, 1) := by decide +kernel
theorem dL_law_1762 : decode cL_law 1762 = .ok (.iload 6, 2) := by decide +kernel
theorem dL_law_1764 : decode cL_law 1764 = .ok (.i2l, 1) := by decide +kernel
theorem dL_law_1765 : decode cL_law 1765 = .ok (.lcmp, 1) := by decide +kernel
theorem dL_law_1766 : decode cL_law 1766 = .ok (.ifCond .eq 5, 3) := by decide +kernel
theorem dL_law_1774 : decode cL_law 1774 = .ok (.aload_n 1, 1) := by decide +kernel
theorem dL_law_1775 : decode cL_law 1775 = .ok (.aload_n 3, 1) := by decide +kernel
theorem dL_law_1776 : decode cL_law 1776 = .ok (.invokestatic 253, 3) := by decide +kernel
theorem dL_law_1779 : decode cL_law 1779 = .ok (.istore 5, 2) := by decide +kernel
theorem dL_law_1781 : decode cL_law 1781 = .ok (.aload_n 2, 1) := by decide +kernel
theorem dL_law_1782 : decode cL_law 1782 = .ok (.invokevirtual 255, 3) := by decide +kernel
theorem dL_law_1785 : decode cL_law 1785 = .ok (.istore 6, 2) := by decide +kernel
theorem dL_law_1787 : decode cL_law 1787 = .ok (.aload_n 2, 1) := by decide +kernel
theorem dL_law_1788 : decode cL_law 1788 = .ok (.invokevirtual 169, 3) := by decide +kernel
theorem dL_law_1791 : decode cL_law 1791 = .ok (.iload 5, 2) := by decide +kernel
theorem dL_law_1793 : decode cL_law 1793 = .ok (.if_icmp .eq 5, 3) := by decide +kernel
theorem dL_law_1798 : decode cL_law 1798 = .ok (.iload 5, 2) := by decide +kernel
theorem dL_law_1800 : decode cL_law 1800 = .ok (.ifCond .ne 15, 3) := by decide +kernel
theorem dL_law_1815 : decode cL_law 1815 = .ok (.goto 1186, 3) := by decide +kernel
theorem dL_law_1803 : decode cL_law 1803 = .ok (.aload_n 3, 1) := by decide +kernel
theorem dL_law_1804 : decode cL_law 1804 = .ok (.iconst 0, 1) := by decide +kernel
theorem dL_law_1805 : decode cL_law 1805 = .ok (.laload, 1) := by decide +kernel
theorem dL_law_1806 : decode cL_law 1806 = .ok (.iload 6, 2) := by decide +kernel
theorem dL_law_1808 : decode cL_law 1808 = .ok (.i2l, 1) := by decide +kernel
theorem dL_law_1809 : decode cL_law 1809 = .ok (.lcmp, 1) := by decide +kernel
theorem dL_law_1810 : decode cL_law 1810 = .ok (.ifCond .eq 5, 3) := by decide +kernel
theorem dL_law_1818 : decode cL_law 1818 = .ok (.aload_n 1, 1) := by decide +kernel
theorem dL_law_1819 : decode cL_law 1819 = .ok (.aload_n 0, 1) := by decide +kernel
theorem dL_law_1820 : decode cL_law 1820 = .ok (.iload 4, 2) := by decide +kernel
theorem dL_law_1822 : decode cL_law 1822 = .ok (.iconst 1, 1) := by decide +kernel
theorem dL_law_1823 : decode cL_law 1823 = .ok (.iadd, 1) := by decide +kernel
theorem dL_law_1824 : decode cL_law 1824 = .ok (.iaload, 1) := by decide +kernel
theorem dL_law_1825 : decode cL_law 1825 = .ok (.aload_n 0, 1) := by decide +kernel
theorem dL_law_1826 : decode cL_law 1826 = .ok (.iload 4, 2) := by decide +kernel
theorem dL_law_1828 : decode cL_law 1828 = .ok (.iconst 2, 1) := by decide +kernel
theorem dL_law_1829 : decode cL_law 1829 = .ok (.iadd, 1) := by decide +kernel
theorem dL_law_1830 : decode cL_law 1830 = .ok (.iaload, 1) := by decide +kernel
theorem dL_law_1831 : decode cL_law 1831 = .ok (.aload_n 3, 1) := by decide +kernel
theorem dL_law_1832 : decode cL_law 1832 = .ok (.invokestatic 256, 3) := by decide +kernel
theorem dL_law_1835 : decode cL_law 1835 = .ok (.istore 5, 2) := by decide +kernel
theorem dL_law_1837 : decode cL_law 1837 = .ok (.aload_n 2, 1) := by decide +kernel
theorem dL_law_1838 : decode cL_law 1838 = .ok (.aload_n 0, 1) := by decide +kernel
theorem dL_law_1839 : decode cL_law 1839 = .ok (.iload 4, 2) := by decide +kernel
theorem dL_law_1841 : decode cL_law 1841 = .ok (.iconst 1, 1) := by decide +kernel
theorem dL_law_1842 : decode cL_law 1842 = .ok (.iadd, 1) := by decide +kernel
theorem dL_law_1843 : decode cL_law 1843 = .ok (.iaload, 1) := by decide +kernel
theorem dL_law_1844 : decode cL_law 1844 = .ok (.aload_n 0, 1) := by decide +kernel
theorem dL_law_1845 : decode cL_law 1845 = .ok (.iload 4, 2) := by decide +kernel
theorem dL_law_1847 : decode cL_law 1847 = .ok (.iconst 2, 1) := by decide +kernel
theorem dL_law_1848 : decode cL_law 1848 = .ok (.iadd, 1) := by decide +kernel
theorem dL_law_1849 : decode cL_law 1849 = .ok (.iaload, 1) := by decide +kernel
theorem dL_law_1850 : decode cL_law 1850 = .ok (.invokevirtual 258, 3) := by decide +kernel
theorem dL_law_1853 : decode cL_law 1853 = .ok (.istore 6, 2) := by decide +kernel
theorem dL_law_1855 : decode cL_law 1855 = .ok (.aload_n 2, 1) := by decide +kernel
theorem dL_law_1856 : decode cL_law 1856 = .ok (.invokevirtual 169, 3) := by decide +kernel
theorem dL_law_1859 : decode cL_law 1859 = .ok (.iload 5, 2) := by decide +kernel
theorem dL_law_1861 : decode cL_law 1861 = .ok (.if_icmp .eq 5, 3) := by decide +kernel
theorem dL_law_1866 : decode cL_law 1866 = .ok (.iload 5, 2) := by decide +kernel
theorem dL_law_1868 : decode cL_law 1868 = .ok (.ifCond .ne 15, 3) := by decide +kernel
theorem dL_law_1883 : decode cL_law 1883 = .ok (.goto 1118, 3) := by decide +kernel
theorem dL_law_1871 : decode cL_law 1871 = .ok (.aload_n 3, 1) := by decide +kernel
theorem dL_law_1872 : decode cL_law 1872 = .ok (.iconst 0, 1) := by decide +kernel
theorem dL_law_1873 : decode cL_law 1873 = .ok (.laload, 1) := by decide +kernel
theorem dL_law_1874 : decode cL_law 1874 = .ok (.iload 6, 2) := by decide +kernel
theorem dL_law_1876 : decode cL_law 1876 = .ok (.i2l, 1) := by decide +kernel
theorem dL_law_1877 : decode cL_law 1877 = .ok (.lcmp, 1) := by decide +kernel
theorem dL_law_1878 : decode cL_law 1878 = .ok (.ifCond .eq 5, 3) := by decide +kernel
theorem dL_law_1886 : decode cL_law 1886 = .ok (.aload_n 1, 1) := by decide +kernel
theorem dL_law_1887 : decode cL_law 1887 = .ok (.aload_n 0, 1) := by decide +kernel
theorem dL_law_1888 : decode cL_law 1888 = .ok (.iload 4, 2) := by decide +kernel
theorem dL_law_1890 : decode cL_law 1890 = .ok (.iconst 1, 1) := by decide +kernel
theorem dL_law_1891 : decode cL_law 1891 = .ok (.iadd, 1) := by decide +kernel
theorem dL_law_1892 : decode cL_law 1892 = .ok (.iaload, 1) := by decide +kernel
theorem dL_law_1893 : decode cL_law 1893 = .ok (.aload_n 3, 1) := by decide +kernel
theorem dL_law_1894 : decode cL_law 1894 = .ok (.invokestatic 259, 3) := by decide +kernel
theorem dL_law_1897 : decode cL_law 1897 = .ok (.istore 5, 2) := by decide +kernel
theorem dL_law_1899 : decode cL_law 1899 = .ok (.aload_n 2, 1) := by decide +kernel
theorem dL_law_1900 : decode cL_law 1900 = .ok (.aload_n 0, 1) := by decide +kernel
theorem dL_law_1901 : decode cL_law 1901 = .ok (.iload 4, 2) := by decide +kernel
theorem dL_law_1903 : decode cL_law 1903 = .ok (.iconst 1, 1) := by decide +kernel
theorem dL_law_1904 : decode cL_law 1904 = .ok (.iadd, 1) := by decide +kernel
theorem dL_law_1905 : decode cL_law 1905 = .ok (.iaload, 1) := by decide +kernel
theorem dL_law_1906 : decode cL_law 1906 = .ok (.invokevirtual 261, 3) := by decide +kernel
theorem dL_law_1909 : decode cL_law 1909 = .ok (.istore 6, 2) := by decide +kernel
theorem dL_law_1911 : decode cL_law 1911 = .ok (.aload_n 2, 1) := by decide +kernel
theorem dL_law_1912 : decode cL_law 1912 = .ok (.invokevirtual 169, 3) := by decide +kernel
theorem dL_law_1915 : decode cL_law 1915 = .ok (.iload 5, 2) := by decide +kernel
theorem dL_law_1917 : decode cL_law 1917 = .ok (.if_icmp .eq 5, 3) := by decide +kernel
theorem dL_law_1922 : decode cL_law 1922 = .ok (.iload 5, 2) := by decide +kernel
theorem dL_law_1924 : decode cL_law 1924 = .ok (.ifCond .ne 15, 3) := by decide +kernel
theorem dL_law_1939 : decode cL_law 1939 = .ok (.goto 1062, 3) := by decide +kernel
theorem dL_law_1927 : decode cL_law 1927 = .ok (.aload_n 3, 1) := by decide +kernel
theorem dL_law_1928 : decode cL_law 1928 = .ok (.iconst 0, 1) := by decide +kernel
theorem dL_law_1929 : decode cL_law 1929 = .ok (.laload, 1) := by decide +kernel
theorem dL_law_1930 : decode cL_law 1930 = .ok (.iload 6, 2) := by decide +kernel
theorem dL_law_1932 : decode cL_law 1932 = .ok (.i2l, 1) := by decide +kernel
theorem dL_law_1933 : decode cL_law 1933 = .ok (.lcmp, 1) := by decide +kernel
theorem dL_law_1934 : decode cL_law 1934 = .ok (.ifCond .eq 5, 3) := by decide +kernel
theorem dL_law_1942 : decode cL_law 1942 = .ok (.aload_n 1, 1) := by decide +kernel
theorem dL_law_1943 : decode cL_law 1943 = .ok (.aload_n 0, 1) := by decide +kernel
theorem dL_law_1944 : decode cL_law 1944 = .ok (.iload 4, 2) := by decide +kernel
theorem dL_law_1946 : decode cL_law 1946 = .ok (.iconst 1, 1) := by decide +kernel
theorem dL_law_1947 : decode cL_law 1947 = .ok (.iadd, 1) := by decide +kernel
theorem dL_law_1948 : decode cL_law 1948 = .ok (.iaload, 1) := by decide +kernel
theorem dL_law_1949 : decode cL_law 1949 = .ok (.aload_n 0, 1) := by decide +kernel
theorem dL_law_1950 : decode cL_law 1950 = .ok (.iload 4, 2) := by decide +kernel
theorem dL_law_1952 : decode cL_law 1952 = .ok (.iconst 2, 1) := by decide +kernel
theorem dL_law_1953 : decode cL_law 1953 = .ok (.iadd, 1) := by decide +kernel
theorem dL_law_1954 : decode cL_law 1954 = .ok (.iaload, 1) := by decide +kernel
theorem dL_law_1955 : decode cL_law 1955 = .ok (.aload_n 0, 1) := by decide +kernel
theorem dL_law_1956 : decode cL_law 1956 = .ok (.iload 4, 2) := by decide +kernel
theorem dL_law_1958 : decode cL_law 1958 = .ok (.iconst 3, 1) := by decide +kernel
theorem dL_law_1959 : decode cL_law 1959 = .ok (.iadd, 1) := by decide +kernel
theorem dL_law_1960 : decode cL_law 1960 = .ok (.iaload, 1) := by decide +kernel
theorem dL_law_1961 : decode cL_law 1961 = .ok (.aload_n 3, 1) := by decide +kernel
theorem dL_law_1962 : decode cL_law 1962 = .ok (.invokestatic 262, 3) := by decide +kernel
theorem dL_law_1965 : decode cL_law 1965 = .ok (.istore 5, 2) := by decide +kernel
theorem dL_law_1967 : decode cL_law 1967 = .ok (.aload_n 2, 1) := by decide +kernel
theorem dL_law_1968 : decode cL_law 1968 = .ok (.aload_n 0, 1) := by decide +kernel
theorem dL_law_1969 : decode cL_law 1969 = .ok (.iload 4, 2) := by decide +kernel
theorem dL_law_1971 : decode cL_law 1971 = .ok (.iconst 1, 1) := by decide +kernel
theorem dL_law_1972 : decode cL_law 1972 = .ok (.iadd, 1) := by decide +kernel
theorem dL_law_1973 : decode cL_law 1973 = .ok (.iaload, 1) := by decide +kernel
theorem dL_law_1974 : decode cL_law 1974 = .ok (.aload_n 0, 1) := by decide +kernel
theorem dL_law_1975 : decode cL_law 1975 = .ok (.iload 4, 2) := by decide +kernel
theorem dL_law_1977 : decode cL_law 1977 = .ok (.iconst 2, 1) := by decide +kernel
theorem dL_law_1978 : decode cL_law 1978 = .ok (.iadd, 1) := by decide +kernel
theorem dL_law_1979 : decode cL_law 1979 = .ok (.iaload, 1) := by decide +kernel
theorem dL_law_1980 : decode cL_law 1980 = .ok (.aload_n 0, 1) := by decide +kernel
theorem dL_law_1981 : decode cL_law 1981 = .ok (.iload 4, 2) := by decide +kernel
theorem dL_law_1983 : decode cL_law 1983 = .ok (.iconst 3, 1) := by decide +kernel
theorem dL_law_1984 : decode cL_law 1984 = .ok (.iadd, 1) := by decide +kernel
theorem dL_law_1985 : decode cL_law 1985 = .ok (.iaload, 1) := by decide +kernel
theorem dL_law_1986 : decode cL_law 1986 = .ok (.invokevirtual 264, 3) := by decide +kernel
theorem dL_law_1989 : decode cL_law 1989 = .ok (.istore 6, 2) := by decide +kernel
theorem dL_law_1991 : decode cL_law 1991 = .ok (.aload_n 2, 1) := by decide +kernel
theorem dL_law_1992 : decode cL_law 1992 = .ok (.invokevirtual 169, 3) := by decide +kernel
theorem dL_law_1995 : decode cL_law 1995 = .ok (.iload 5, 2) := by decide +kernel
theorem dL_law_1997 : decode cL_law 1997 = .ok (.if_icmp .eq 5, 3) := by decide +kernel
theorem dL_law_2002 : decode cL_law 2002 = .ok (.iload 5, 2) := by decide +kernel
theorem dL_law_2004 : decode cL_law 2004 = .ok (.ifCond .ne 15, 3) := by decide +kernel
theorem dL_law_2019 : decode cL_law 2019 = .ok (.goto 982, 3) := by decide +kernel
theorem dL_law_2007 : decode cL_law 2007 = .ok (.aload_n 3, 1) := by decide +kernel
theorem dL_law_2008 : decode cL_law 2008 = .ok (.iconst 0, 1) := by decide +kernel
theorem dL_law_2009 : decode cL_law 2009 = .ok (.laload, 1) := by decide +kernel
theorem dL_law_2010 : decode cL_law 2010 = .ok (.iload 6, 2) := by decide +kernel
theorem dL_law_2012 : decode cL_law 2012 = .ok (.i2l, 1) := by decide +kernel
theorem dL_law_2013 : decode cL_law 2013 = .ok (.lcmp, 1) := by decide +kernel
theorem dL_law_2014 : decode cL_law 2014 = .ok (.ifCond .eq 5, 3) := by decide +kernel
theorem dL_law_2022 : decode cL_law 2022 = .ok (.aload_n 1, 1) := by decide +kernel
theorem dL_law_2023 : decode cL_law 2023 = .ok (.aload_n 0, 1) := by decide +kernel
theorem dL_law_2024 : decode cL_law 2024 = .ok (.iload 4, 2) := by decide +kernel
theorem dL_law_2026 : decode cL_law 2026 = .ok (.iconst 1, 1) := by decide +kernel
theorem dL_law_2027 : decode cL_law 2027 = .ok (.iadd, 1) := by decide +kernel
theorem dL_law_2028 : decode cL_law 2028 = .ok (.iaload, 1) := by decide +kernel
theorem dL_law_2029 : decode cL_law 2029 = .ok (.aload_n 0, 1) := by decide +kernel
theorem dL_law_2030 : decode cL_law 2030 = .ok (.iload 4, 2) := by decide +kernel
theorem dL_law_2032 : decode cL_law 2032 = .ok (.iconst 2, 1) := by decide +kernel
theorem dL_law_2033 : decode cL_law 2033 = .ok (.iadd, 1) := by decide +kernel
theorem dL_law_2034 : decode cL_law 2034 = .ok (.iaload, 1) := by decide +kernel
theorem dL_law_2035 : decode cL_law 2035 = .ok (.aload_n 3, 1) := by decide +kernel
theorem dL_law_2036 : decode cL_law 2036 = .ok (.invokestatic 265, 3) := by decide +kernel
theorem dL_law_2039 : decode cL_law 2039 = .ok (.istore 5, 2) := by decide +kernel
theorem dL_law_2041 : decode cL_law 2041 = .ok (.aload_n 2, 1) := by decide +kernel
theorem dL_law_2042 : decode cL_law 2042 = .ok (.aload_n 0, 1) := by decide +kernel
theorem dL_law_2043 : decode cL_law 2043 = .ok (.iload 4, 2) := by decide +kernel
theorem dL_law_2045 : decode cL_law 2045 = .ok (.iconst 1, 1) := by decide +kernel
theorem dL_law_2046 : decode cL_law 2046 = .ok (.iadd, 1) := by decide +kernel
theorem dL_law_2047 : decode cL_law 2047 = .ok (.iaload, 1) := by decide +kernel
theorem dL_law_2048 : decode cL_law 2048 = .ok (.aload_n 0, 1) := by decide +kernel
theorem dL_law_2049 : decode cL_law 2049 = .ok (.iload 4, 2) := by decide +kernel
theorem dL_law_2051 : decode cL_law 2051 = .ok (.iconst 2, 1) := by decide +kernel
theorem dL_law_2052 : decode cL_law 2052 = .ok (.iadd, 1) := by decide +kernel
theorem dL_law_2053 : decode cL_law 2053 = .ok (.iaload, 1) := by decide +kernel
theorem dL_law_2054 : decode cL_law 2054 = .ok (.invokevirtual 267, 3) := by decide +kernel
theorem dL_law_2057 : decode cL_law 2057 = .ok (.istore 6, 2) := by decide +kernel
theorem dL_law_2059 : decode cL_law 2059 = .ok (.aload_n 2, 1) := by decide +kernel
theorem dL_law_2060 : decode cL_law 2060 = .ok (.invokevirtual 169, 3) := by decide +kernel
theorem dL_law_2063 : decode cL_law 2063 = .ok (.iload 5, 2) := by decide +kernel
theorem dL_law_2065 : decode cL_law 2065 = .ok (.if_icmp .eq 5, 3) := by decide +kernel
theorem dL_law_2070 : decode cL_law 2070 = .ok (.iload 5, 2) := by decide +kernel
theorem dL_law_2072 : decode cL_law 2072 = .ok (.ifCond .ne 15, 3) := by decide +kernel
theorem dL_law_2087 : decode cL_law 2087 = .ok (.goto 914, 3) := by decide +kernel
theorem dL_law_2075 : decode cL_law 2075 = .ok (.aload_n 3, 1) := by decide +kernel
theorem dL_law_2076 : decode cL_law 2076 = .ok (.iconst 0, 1) := by decide +kernel
theorem dL_law_2077 : decode cL_law 2077 = .ok (.laload, 1) := by decide +kernel
theorem dL_law_2078 : decode cL_law 2078 = .ok (.iload 6, 2) := by decide +kernel
theorem dL_law_2080 : decode cL_law 2080 = .ok (.i2l, 1) := by decide +kernel
theorem dL_law_2081 : decode cL_law 2081 = .ok (.lcmp, 1) := by decide +kernel
theorem dL_law_2082 : decode cL_law 2082 = .ok (.ifCond .eq 5, 3) := by decide +kernel
theorem dL_law_2090 : decode cL_law 2090 = .ok (.aload_n 1, 1) := by decide +kernel
theorem dL_law_2091 : decode cL_law 2091 = .ok (.aload_n 0, 1) := by decide +kernel
theorem dL_law_2092 : decode cL_law 2092 = .ok (.iload 4, 2) := by decide +kernel
theorem dL_law_2094 : decode cL_law 2094 = .ok (.iconst 1, 1) := by decide +kernel
theorem dL_law_2095 : decode cL_law 2095 = .ok (.iadd, 1) := by decide +kernel
theorem dL_law_2096 : decode cL_law 2096 = .ok (.iaload, 1) := by decide +kernel
theorem dL_law_2097 : decode cL_law 2097 = .ok (.aload_n 0, 1) := by decide +kernel
theorem dL_law_2098 : decode cL_law 2098 = .ok (.iload 4, 2) := by decide +kernel
theorem dL_law_2100 : decode cL_law 2100 = .ok (.iconst 2, 1) := by decide +kernel
theorem dL_law_2101 : decode cL_law 2101 = .ok (.iadd, 1) := by decide +kernel
theorem dL_law_2102 : decode cL_law 2102 = .ok (.iaload, 1) := by decide +kernel
theorem dL_law_2103 : decode cL_law 2103 = .ok (.aload_n 0, 1) := by decide +kernel
theorem dL_law_2104 : decode cL_law 2104 = .ok (.iload 4, 2) := by decide +kernel
theorem dL_law_2106 : decode cL_law 2106 = .ok (.iconst 3, 1) := by decide +kernel
theorem dL_law_2107 : decode cL_law 2107 = .ok (.iadd, 1) := by decide +kernel
theorem dL_law_2108 : decode cL_law 2108 = .ok (.iaload, 1) := by decide +kernel
theorem dL_law_2109 : decode cL_law 2109 = .ok (.aload_n 3, 1) := by decide +kernel
theorem dL_law_2110 : decode cL_law 2110 = .ok (.invokestatic 268, 3) := by decide +kernel
theorem dL_law_2113 : decode cL_law 2113 = .ok (.istore 5, 2) := by decide +kernel
theorem dL_law_2115 : decode cL_law 2115 = .ok (.aload_n 2, 1) := by decide +kernel
theorem dL_law_2116 : decode cL_law 2116 = .ok (.aload_n 0, 1) := by decide +kernel
theorem dL_law_2117 : decode cL_law 2117 = .ok (.iload 4, 2) := by decide +kernel
theorem dL_law_2119 : decode cL_law 2119 = .ok (.iconst 1, 1) := by decide +kernel
theorem dL_law_2120 : decode cL_law 2120 = .ok (.iadd, 1) := by decide +kernel
theorem dL_law_2121 : decode cL_law 2121 = .ok (.iaload, 1) := by decide +kernel
theorem dL_law_2122 : decode cL_law 2122 = .ok (.aload_n 0, 1) := by decide +kernel
theorem dL_law_2123 : decode cL_law 2123 = .ok (.iload 4, 2) := by decide +kernel
theorem dL_law_2125 : decode cL_law 2125 = .ok (.iconst 2, 1) := by decide +kernel
theorem dL_law_2126 : decode cL_law 2126 = .ok (.iadd, 1) := by decide +kernel
theorem dL_law_2127 : decode cL_law 2127 = .ok (.iaload, 1) := by decide +kernel
theorem dL_law_2128 : decode cL_law 2128 = .ok (.aload_n 0, 1) := by decide +kernel
theorem dL_law_2129 : decode cL_law 2129 = .ok (.iload 4, 2) := by decide +kernel
theorem dL_law_2131 : decode cL_law 2131 = .ok (.iconst 3, 1) := by decide +kernel
theorem dL_law_2132 : decode cL_law 2132 = .ok (.iadd, 1) := by decide +kernel
theorem dL_law_2133 : decode cL_law 2133 = .ok (.iaload, 1) := by decide +kernel
theorem dL_law_2134 : decode cL_law 2134 = .ok (.invokevirtual 270, 3) := by decide +kernel
theorem dL_law_2137 : decode cL_law 2137 = .ok (.istore 6, 2) := by decide +kernel
theorem dL_law_2139 : decode cL_law 2139 = .ok (.aload_n 2, 1) := by decide +kernel
theorem dL_law_2140 : decode cL_law 2140 = .ok (.invokevirtual 169, 3) := by decide +kernel
theorem dL_law_2143 : decode cL_law 2143 = .ok (.iload 5, 2) := by decide +kernel
theorem dL_law_2145 : decode cL_law 2145 = .ok (.if_icmp .eq 5, 3) := by decide +kernel
theorem dL_law_2150 : decode cL_law 2150 = .ok (.iload 5, 2) := by decide +kernel
theorem dL_law_2152 : decode cL_law 2152 = .ok (.ifCond .ne 15, 3) := by decide +kernel
theorem dL_law_2167 : decode cL_law 2167 = .ok (.goto 834, 3) := by decide +kernel
theorem dL_law_2155 : decode cL_law 2155 = .ok (.aload_n 3, 1) := by decide +kernel
theorem dL_law_2156 : decode cL_law 2156 = .ok (.iconst 0, 1) := by decide +kernel
theorem dL_law_2157 : decode cL_law 2157 = .ok (.laload, 1) := by decide +kernel
theorem dL_law_2158 : decode cL_law 2158 = .ok (.iload 6, 2) := by decide +kernel
theorem dL_law_2160 : decode cL_law 2160 = .ok (.i2l, 1) := by decide +kernel
theorem dL_law_2161 : decode cL_law 2161 = .ok (.lcmp, 1) := by decide +kernel
theorem dL_law_2162 : decode cL_law 2162 = .ok (.ifCond .eq 5, 3) := by decide +kernel
theorem dL_law_2170 : decode cL_law 2170 = .ok (.aload_n 1, 1) := by decide +kernel
theorem dL_law_2171 : decode cL_law 2171 = .ok (.aload_n 0, 1) := by decide +kernel
theorem dL_law_2172 : decode cL_law 2172 = .ok (.iload 4, 2) := by decide +kernel
theorem dL_law_2174 : decode cL_law 2174 = .ok (.iconst 1, 1) := by decide +kernel
theorem dL_law_2175 : decode cL_law 2175 = .ok (.iadd, 1) := by decide +kernel
theorem dL_law_2176 : decode cL_law 2176 = .ok (.iaload, 1) := by decide +kernel
theorem dL_law_2177 : decode cL_law 2177 = .ok (.aload_n 3, 1) := by decide +kernel
theorem dL_law_2178 : decode cL_law 2178 = .ok (.invokestatic 271, 3) := by decide +kernel
theorem dL_law_2181 : decode cL_law 2181 = .ok (.istore 5, 2) := by decide +kernel
theorem dL_law_2183 : decode cL_law 2183 = .ok (.aload_n 2, 1) := by decide +kernel
theorem dL_law_2184 : decode cL_law 2184 = .ok (.aload_n 0, 1) := by decide +kernel
theorem dL_law_2185 : decode cL_law 2185 = .ok (.iload 4, 2) := by decide +kernel
theorem dL_law_2187 : decode cL_law 2187 = .ok (.iconst 1, 1) := by decide +kernel
theorem dL_law_2188 : decode cL_law 2188 = .ok (.iadd, 1) := by decide +kernel
theorem dL_law_2189 : decode cL_law 2189 = .ok (.iaload, 1) := by decide +kernel
theorem dL_law_2190 : decode cL_law 2190 = .ok (.invokevirtual 273, 3) := by decide +kernel
theorem dL_law_2193 : decode cL_law 2193 = .ok (.istore 6, 2) := by decide +kernel
theorem dL_law_2195 : decode cL_law 2195 = .ok (.aload_n 2, 1) := by decide +kernel
theorem dL_law_2196 : decode cL_law 2196 = .ok (.invokevirtual 169, 3) := by decide +kernel
theorem dL_law_2199 : decode cL_law 2199 = .ok (.iload 5, 2) := by decide +kernel
theorem dL_law_2201 : decode cL_law 2201 = .ok (.if_icmp .eq 5, 3) := by decide +kernel
theorem dL_law_2206 : decode cL_law 2206 = .ok (.iload 5, 2) := by decide +kernel
theorem dL_law_2208 : decode cL_law 2208 = .ok (.ifCond .ne 15, 3) := by decide +kernel
theorem dL_law_2223 : decode cL_law 2223 = .ok (.goto 778, 3) := by decide +kernel
theorem dL_law_2211 : decode cL_law 2211 = .ok (.aload_n 3, 1) := by decide +kernel
theorem dL_law_2212 : decode cL_law 2212 = .ok (.iconst 0, 1) := by decide +kernel
theorem dL_law_2213 : decode cL_law 2213 = .ok (.laload, 1) := by decide +kernel
theorem dL_law_2214 : decode cL_law 2214 = .ok (.iload 6, 2) := by decide +kernel
theorem dL_law_2216 : decode cL_law 2216 = .ok (.i2l, 1) := by decide +kernel
theorem dL_law_2217 : decode cL_law 2217 = .ok (.lcmp, 1) := by decide +kernel
theorem dL_law_2218 : decode cL_law 2218 = .ok (.ifCond .eq 5, 3) := by decide +kernel
theorem dL_law_2226 : decode cL_law 2226 = .ok (.aload_n 1, 1) := by decide +kernel
theorem dL_law_2227 : decode cL_law 2227 = .ok (.aload_n 0, 1) := by decide +kernel
theorem dL_law_2228 : decode cL_law 2228 = .ok (.iload 4, 2) := by decide +kernel
theorem dL_law_2230 : decode cL_law 2230 = .ok (.iconst 1, 1) := by decide +kernel
theorem dL_law_2231 : decode cL_law 2231 = .ok (.iadd, 1) := by decide +kernel
theorem dL_law_2232 : decode cL_law 2232 = .ok (.iaload, 1) := by decide +kernel
theorem dL_law_2233 : decode cL_law 2233 = .ok (.aload_n 3, 1) := by decide +kernel
theorem dL_law_2234 : decode cL_law 2234 = .ok (.invokestatic 274, 3) := by decide +kernel
theorem dL_law_2237 : decode cL_law 2237 = .ok (.istore 5, 2) := by decide +kernel
theorem dL_law_2239 : decode cL_law 2239 = .ok (.aload_n 2, 1) := by decide +kernel
theorem dL_law_2240 : decode cL_law 2240 = .ok (.aload_n 0, 1) := by decide +kernel
theorem dL_law_2241 : decode cL_law 2241 = .ok (.iload 4, 2) := by decide +kernel
theorem dL_law_2243 : decode cL_law 2243 = .ok (.iconst 1, 1) := by decide +kernel
theorem dL_law_2244 : decode cL_law 2244 = .ok (.iadd, 1) := by decide +kernel
theorem dL_law_2245 : decode cL_law 2245 = .ok (.iaload, 1) := by decide +kernel
theorem dL_law_2246 : decode cL_law 2246 = .ok (.invokevirtual 276, 3) := by decide +kernel
theorem dL_law_2249 : decode cL_law 2249 = .ok (.istore 6, 2) := by decide +kernel
theorem dL_law_2251 : decode cL_law 2251 = .ok (.aload_n 2, 1) := by decide +kernel
theorem dL_law_2252 : decode cL_law 2252 = .ok (.invokevirtual 169, 3) := by decide +kernel
theorem dL_law_2255 : decode cL_law 2255 = .ok (.iload 5, 2) := by decide +kernel
theorem dL_law_2257 : decode cL_law 2257 = .ok (.if_icmp .eq 5, 3) := by decide +kernel
theorem dL_law_2262 : decode cL_law 2262 = .ok (.iload 5, 2) := by decide +kernel
theorem dL_law_2264 : decode cL_law 2264 = .ok (.ifCond .ne 22, 3) := by decide +kernel
theorem dL_law_2286 : decode cL_law 2286 = .ok (.goto 715, 3) := by decide +kernel
theorem dL_law_2267 : decode cL_law 2267 = .ok (.aload_n 3, 1) := by decide +kernel
theorem dL_law_2268 : decode cL_law 2268 = .ok (.iconst 0, 1) := by decide +kernel
theorem dL_law_2269 : decode cL_law 2269 = .ok (.laload, 1) := by decide +kernel
theorem dL_law_2270 : decode cL_law 2270 = .ok (.iload 6, 2) := by decide +kernel
theorem dL_law_2272 : decode cL_law 2272 = .ok (.ifCond .eq 7, 3) := by decide +kernel
theorem dL_law_2279 : decode cL_law 2279 = .ok (.lconst 0, 1) := by decide +kernel
theorem dL_law_2280 : decode cL_law 2280 = .ok (.lcmp, 1) := by decide +kernel
theorem dL_law_2281 : decode cL_law 2281 = .ok (.ifCond .eq 5, 3) := by decide +kernel
theorem dL_law_2275 : decode cL_law 2275 = .ok (.lconst 1, 1) := by decide +kernel
theorem dL_law_2276 : decode cL_law 2276 = .ok (.goto 4, 3) := by decide +kernel
theorem dL_law_2289 : decode cL_law 2289 = .ok (.aload_n 1, 1) := by decide +kernel
theorem dL_law_2290 : decode cL_law 2290 = .ok (.aload_n 3, 1) := by decide +kernel
theorem dL_law_2291 : decode cL_law 2291 = .ok (.invokestatic 277, 3) := by decide +kernel
theorem dL_law_2294 : decode cL_law 2294 = .ok (.istore 5, 2) := by decide +kernel
theorem dL_law_2296 : decode cL_law 2296 = .ok (.aload_n 2, 1) := by decide +kernel
theorem dL_law_2297 : decode cL_law 2297 = .ok (.invokevirtual 279, 3) := by decide +kernel
theorem dL_law_2300 : decode cL_law 2300 = .ok (.istore 6, 2) := by decide +kernel
theorem dL_law_2302 : decode cL_law 2302 = .ok (.aload_n 2, 1) := by decide +kernel
theorem dL_law_2303 : decode cL_law 2303 = .ok (.invokevirtual 169, 3) := by decide +kernel
theorem dL_law_2306 : decode cL_law 2306 = .ok (.iload 5, 2) := by decide +kernel
theorem dL_law_2308 : decode cL_law 2308 = .ok (.if_icmp .eq 5, 3) := by decide +kernel
theorem dL_law_2313 : decode cL_law 2313 = .ok (.iload 5, 2) := by decide +kernel
theorem dL_law_2315 : decode cL_law 2315 = .ok (.ifCond .ne 15, 3) := by decide +kernel
theorem dL_law_2330 : decode cL_law 2330 = .ok (.goto 671, 3) := by decide +kernel
theorem dL_law_2318 : decode cL_law 2318 = .ok (.aload_n 3, 1) := by decide +kernel
theorem dL_law_2319 : decode cL_law 2319 = .ok (.iconst 0, 1) := by decide +kernel
theorem dL_law_2320 : decode cL_law 2320 = .ok (.laload, 1) := by decide +kernel
theorem dL_law_2321 : decode cL_law 2321 = .ok (.iload 6, 2) := by decide +kernel
theorem dL_law_2323 : decode cL_law 2323 = .ok (.i2l, 1) := by decide +kernel
theorem dL_law_2324 : decode cL_law 2324 = .ok (.lcmp, 1) := by decide +kernel
theorem dL_law_2325 : decode cL_law 2325 = .ok (.ifCond .eq 5, 3) := by decide +kernel
theorem dL_law_2333 : decode cL_law 2333 = .ok (.aload_n 1, 1) := by decide +kernel
theorem dL_law_2334 : decode cL_law 2334 = .ok (.aload_n 3, 1) := by decide +kernel
theorem dL_law_2335 : decode cL_law 2335 = .ok (.invokestatic 280, 3) := by decide +kernel
theorem dL_law_2338 : decode cL_law 2338 = .ok (.istore 5, 2) := by decide +kernel
theorem dL_law_2340 : decode cL_law 2340 = .ok (.aload_n 2, 1) := by decide +kernel
theorem dL_law_2341 : decode cL_law 2341 = .ok (.invokevirtual 282, 3) := by decide +kernel
theorem dL_law_2344 : decode cL_law 2344 = .ok (.istore 6, 2) := by decide +kernel
theorem dL_law_2346 : decode cL_law 2346 = .ok (.aload_n 2, 1) := by decide +kernel
theorem dL_law_2347 : decode cL_law 2347 = .ok (.invokevirtual 169, 3) := by decide +kernel
theorem dL_law_2350 : decode cL_law 2350 = .ok (.iload 5, 2) := by decide +kernel
theorem dL_law_2352 : decode cL_law 2352 = .ok (.if_icmp .eq 5, 3) := by decide +kernel
theorem dL_law_2357 : decode cL_law 2357 = .ok (.iload 5, 2) := by decide +kernel
theorem dL_law_2359 : decode cL_law 2359 = .ok (.ifCond .ne 15, 3) := by decide +kernel
theorem dL_law_2374 : decode cL_law 2374 = .ok (.goto 627, 3) := by decide +kernel
theorem dL_law_2362 : decode cL_law 2362 = .ok (.aload_n 3, 1) := by decide +kernel
theorem dL_law_2363 : decode cL_law 2363 = .ok (.iconst 0, 1) := by decide +kernel
theorem dL_law_2364 : decode cL_law 2364 = .ok (.laload, 1) := by decide +kernel
theorem dL_law_2365 : decode cL_law 2365 = .ok (.iload 6, 2) := by decide +kernel
theorem dL_law_2367 : decode cL_law 2367 = .ok (.i2l, 1) := by decide +kernel
theorem dL_law_2368 : decode cL_law 2368 = .ok (.lcmp, 1) := by decide +kernel
theorem dL_law_2369 : decode cL_law 2369 = .ok (.ifCond .eq 5, 3) := by decide +kernel
theorem dL_law_2377 : decode cL_law 2377 = .ok (.aload_n 1, 1) := by decide +kernel
theorem dL_law_2378 : decode cL_law 2378 = .ok (.aload_n 0, 1) := by decide +kernel
theorem dL_law_2379 : decode cL_law 2379 = .ok (.iload 4, 2) := by decide +kernel
theorem dL_law_2381 : decode cL_law 2381 = .ok (.iconst 1, 1) := by decide +kernel
theorem dL_law_2382 : decode cL_law 2382 = .ok (.iadd, 1) := by decide +kernel
theorem dL_law_2383 : decode cL_law 2383 = .ok (.iaload, 1) := by decide +kernel
theorem dL_law_2384 : decode cL_law 2384 = .ok (.aload_n 3, 1) := by decide +kernel
theorem dL_law_2385 : decode cL_law 2385 = .ok (.invokestatic 283, 3) := by decide +kernel
theorem dL_law_2388 : decode cL_law 2388 = .ok (.istore 5, 2) := by decide +kernel
theorem dL_law_2390 : decode cL_law 2390 = .ok (.aload_n 2, 1) := by decide +kernel
theorem dL_law_2391 : decode cL_law 2391 = .ok (.aload_n 0, 1) := by decide +kernel
theorem dL_law_2392 : decode cL_law 2392 = .ok (.iload 4, 2) := by decide +kernel
theorem dL_law_2394 : decode cL_law 2394 = .ok (.iconst 1, 1) := by decide +kernel
theorem dL_law_2395 : decode cL_law 2395 = .ok (.iadd, 1) := by decide +kernel
theorem dL_law_2396 : decode cL_law 2396 = .ok (.iaload, 1) := by decide +kernel
theorem dL_law_2397 : decode cL_law 2397 = .ok (.invokevirtual 285, 3) := by decide +kernel
theorem dL_law_2400 : decode cL_law 2400 = .ok (.istore 6, 2) := by decide +kernel
theorem dL_law_2402 : decode cL_law 2402 = .ok (.aload_n 2, 1) := by decide +kernel
theorem dL_law_2403 : decode cL_law 2403 = .ok (.invokevirtual 169, 3) := by decide +kernel
theorem dL_law_2406 : decode cL_law 2406 = .ok (.iload 5, 2) := by decide +kernel
theorem dL_law_2408 : decode cL_law 2408 = .ok (.if_icmp .eq 5, 3) := by decide +kernel
theorem dL_law_2413 : decode cL_law 2413 = .ok (.iload 5, 2) := by decide +kernel
theorem dL_law_2415 : decode cL_law 2415 = .ok (.ifCond .ne 15, 3) := by decide +kernel
theorem dL_law_2430 : decode cL_law 2430 = .ok (.goto 571, 3) := by decide +kernel
theorem dL_law_2418 : decode cL_law 2418 = .ok (.aload_n 3, 1) := by decide +kernel
theorem dL_law_2419 : decode cL_law 2419 = .ok (.iconst 0, 1) := by decide +kernel
theorem dL_law_2420 : decode cL_law 2420 = .ok (.laload, 1) := by decide +kernel
theorem dL_law_2421 : decode cL_law 2421 = .ok (.iload 6, 2) := by decide +kernel
theorem dL_law_2423 : decode cL_law 2423 = .ok (.i2l, 1) := by decide +kernel
theorem dL_law_2424 : decode cL_law 2424 = .ok (.lcmp, 1) := by decide +kernel
theorem dL_law_2425 : decode cL_law 2425 = .ok (.ifCond .eq 5, 3) := by decide +kernel
theorem dL_law_2433 : decode cL_law 2433 = .ok (.aload_n 1, 1) := by decide +kernel
theorem dL_law_2434 : decode cL_law 2434 = .ok (.aload_n 0, 1) := by decide +kernel
theorem dL_law_2435 : decode cL_law 2435 = .ok (.iload 4, 2) := by decide +kernel
theorem dL_law_2437 : decode cL_law 2437 = .ok (.iconst 1, 1) := by decide +kernel
theorem dL_law_2438 : decode cL_law 2438 = .ok (.iadd, 1) := by decide +kernel
theorem dL_law_2439 : decode cL_law 2439 = .ok (.iaload, 1) := by decide +kernel
theorem dL_law_2440 : decode cL_law 2440 = .ok (.aload_n 3, 1) := by decide +kernel
theorem dL_law_2441 : decode cL_law 2441 = .ok (.invokestatic 286, 3) := by decide +kernel
theorem dL_law_2444 : decode cL_law 2444 = .ok (.istore 5, 2) := by decide +kernel
theorem dL_law_2446 : decode cL_law 2446 = .ok (.aload_n 2, 1) := by decide +kernel
theorem dL_law_2447 : decode cL_law 2447 = .ok (.aload_n 0, 1) := by decide +kernel
theorem dL_law_2448 : decode cL_law 2448 = .ok (.iload 4, 2) := by decide +kernel
theorem dL_law_2450 : decode cL_law 2450 = .ok (.iconst 1, 1) := by decide +kernel
theorem dL_law_2451 : decode cL_law 2451 = .ok (.iadd, 1) := by decide +kernel
theorem dL_law_2452 : decode cL_law 2452 = .ok (.iaload, 1) := by decide +kernel
theorem dL_law_2453 : decode cL_law 2453 = .ok (.invokevirtual 288, 3) := by decide +kernel
theorem dL_law_2456 : decode cL_law 2456 = .ok (.istore 6, 2) := by decide +kernel
theorem dL_law_2458 : decode cL_law 2458 = .ok (.aload_n 2, 1) := by decide +kernel
theorem dL_law_2459 : decode cL_law 2459 = .ok (.invokevirtual 169, 3) := by decide +kernel
theorem dL_law_2462 : decode cL_law 2462 = .ok (.iload 5, 2) := by decide +kernel
theorem dL_law_2464 : decode cL_law 2464 = .ok (.if_icmp .eq 5, 3) := by decide +kernel
theorem dL_law_2469 : decode cL_law 2469 = .ok (.iload 5, 2) := by decide +kernel
theorem dL_law_2471 : decode cL_law 2471 = .ok (.ifCond .ne 15, 3) := by decide +kernel
theorem dL_law_2486 : decode cL_law 2486 = .ok (.goto 515, 3) := by decide +kernel
theorem dL_law_2474 : decode cL_law 2474 = .ok (.aload_n 3, 1) := by decide +kernel
theorem dL_law_2475 : decode cL_law 2475 = .ok (.iconst 0, 1) := by decide +kernel
theorem dL_law_2476 : decode cL_law 2476 = .ok (.laload, 1) := by decide +kernel
theorem dL_law_2477 : decode cL_law 2477 = .ok (.iload 6, 2) := by decide +kernel
theorem dL_law_2479 : decode cL_law 2479 = .ok (.i2l, 1) := by decide +kernel
theorem dL_law_2480 : decode cL_law 2480 = .ok (.lcmp, 1) := by decide +kernel
theorem dL_law_2481 : decode cL_law 2481 = .ok (.ifCond .eq 5, 3) := by decide +kernel
theorem dL_law_2489 : decode cL_law 2489 = .ok (.aload_n 1, 1) := by decide +kernel
theorem dL_law_2490 : decode cL_law 2490 = .ok (.aload_n 0, 1) := by decide +kernel
theorem dL_law_2491 : decode cL_law 2491 = .ok (.iload 4, 2) := by decide +kernel
theorem dL_law_2493 : decode cL_law 2493 = .ok (.iconst 1, 1) := by decide +kernel
theorem dL_law_2494 : decode cL_law 2494 = .ok (.iadd, 1) := by decide +kernel
theorem dL_law_2495 : decode cL_law 2495 = .ok (.iaload, 1) := by decide +kernel
theorem dL_law_2496 : decode cL_law 2496 = .ok (.aload_n 3, 1) := by decide +kernel
theorem dL_law_2497 : decode cL_law 2497 = .ok (.invokestatic 289, 3) := by decide +kernel
theorem dL_law_2500 : decode cL_law 2500 = .ok (.istore 5, 2) := by decide +kernel
theorem dL_law_2502 : decode cL_law 2502 = .ok (.aload_n 2, 1) := by decide +kernel
theorem dL_law_2503 : decode cL_law 2503 = .ok (.aload_n 0, 1) := by decide +kernel
theorem dL_law_2504 : decode cL_law 2504 = .ok (.iload 4, 2) := by decide +kernel
theorem dL_law_2506 : decode cL_law 2506 = .ok (.iconst 1, 1) := by decide +kernel
theorem dL_law_2507 : decode cL_law 2507 = .ok (.iadd, 1) := by decide +kernel
theorem dL_law_2508 : decode cL_law 2508 = .ok (.iaload, 1) := by decide +kernel
theorem dL_law_2509 : decode cL_law 2509 = .ok (.invokevirtual 291, 3) := by decide +kernel
theorem dL_law_2512 : decode cL_law 2512 = .ok (.istore 6, 2) := by decide +kernel
theorem dL_law_2514 : decode cL_law 2514 = .ok (.aload_n 2, 1) := by decide +kernel
theorem dL_law_2515 : decode cL_law 2515 = .ok (.invokevirtual 169, 3) := by decide +kernel
theorem dL_law_2518 : decode cL_law 2518 = .ok (.iload 5, 2) := by decide +kernel
theorem dL_law_2520 : decode cL_law 2520 = .ok (.if_icmp .eq 5, 3) := by decide +kernel
theorem dL_law_2525 : decode cL_law 2525 = .ok (.iload 5, 2) := by decide +kernel
theorem dL_law_2527 : decode cL_law 2527 = .ok (.ifCond .ne 15, 3) := by decide +kernel
theorem dL_law_2542 : decode cL_law 2542 = .ok (.goto 459, 3) := by decide +kernel
theorem dL_law_2530 : decode cL_law 2530 = .ok (.aload_n 3, 1) := by decide +kernel
theorem dL_law_2531 : decode cL_law 2531 = .ok (.iconst 0, 1) := by decide +kernel
theorem dL_law_2532 : decode cL_law 2532 = .ok (.laload, 1) := by decide +kernel
theorem dL_law_2533 : decode cL_law 2533 = .ok (.iload 6, 2) := by decide +kernel
theorem dL_law_2535 : decode cL_law 2535 = .ok (.i2l, 1) := by decide +kernel
theorem dL_law_2536 : decode cL_law 2536 = .ok (.lcmp, 1) := by decide +kernel
theorem dL_law_2537 : decode cL_law 2537 = .ok (.ifCond .eq 5, 3) := by decide +kernel
theorem dL_law_2545 : decode cL_law 2545 = .ok (.aload_n 1, 1) := by decide +kernel
theorem dL_law_2546 : decode cL_law 2546 = .ok (.aload_n 3, 1) := by decide +kernel
theorem dL_law_2547 : decode cL_law 2547 = .ok (.invokestatic 292, 3) := by decide +kernel
theorem dL_law_2550 : decode cL_law 2550 = .ok (.istore 5, 2) := by decide +kernel
theorem dL_law_2552 : decode cL_law 2552 = .ok (.aload_n 2, 1) := by decide +kernel
theorem dL_law_2553 : decode cL_law 2553 = .ok (.invokevirtual 294, 3) := by decide +kernel
theorem dL_law_2556 : decode cL_law 2556 = .ok (.istore 6, 2) := by decide +kernel
theorem dL_law_2558 : decode cL_law 2558 = .ok (.aload_n 2, 1) := by decide +kernel
theorem dL_law_2559 : decode cL_law 2559 = .ok (.invokevirtual 169, 3) := by decide +kernel
theorem dL_law_2562 : decode cL_law 2562 = .ok (.iload 5, 2) := by decide +kernel
theorem dL_law_2564 : decode cL_law 2564 = .ok (.if_icmp .eq 5, 3) := by decide +kernel
theorem dL_law_2569 : decode cL_law 2569 = .ok (.iload 5, 2) := by decide +kernel
theorem dL_law_2571 : decode cL_law 2571 = .ok (.ifCond .ne 15, 3) := by decide +kernel
theorem dL_law_2586 : decode cL_law 2586 = .ok (.goto 415, 3) := by decide +kernel
theorem dL_law_2574 : decode cL_law 2574 = .ok (.aload_n 3, 1) := by decide +kernel
theorem dL_law_2575 : decode cL_law 2575 = .ok (.iconst 0, 1) := by decide +kernel
theorem dL_law_2576 : decode cL_law 2576 = .ok (.laload, 1) := by decide +kernel
theorem dL_law_2577 : decode cL_law 2577 = .ok (.iload 6, 2) := by decide +kernel
theorem dL_law_2579 : decode cL_law 2579 = .ok (.i2l, 1) := by decide +kernel
theorem dL_law_2580 : decode cL_law 2580 = .ok (.lcmp, 1) := by decide +kernel
theorem dL_law_2581 : decode cL_law 2581 = .ok (.ifCond .eq 5, 3) := by decide +kernel
theorem dL_law_2589 : decode cL_law 2589 = .ok (.aload_n 1, 1) := by decide +kernel
theorem dL_law_2590 : decode cL_law 2590 = .ok (.aload_n 0, 1) := by decide +kernel
theorem dL_law_2591 : decode cL_law 2591 = .ok (.iload 4, 2) := by decide +kernel
theorem dL_law_2593 : decode cL_law 2593 = .ok (.iconst 1, 1) := by decide +kernel
theorem dL_law_2594 : decode cL_law 2594 = .ok (.iadd, 1) := by decide +kernel
theorem dL_law_2595 : decode cL_law 2595 = .ok (.iaload, 1) := by decide +kernel
theorem dL_law_2596 : decode cL_law 2596 = .ok (.aload_n 0, 1) := by decide +kernel
theorem dL_law_2597 : decode cL_law 2597 = .ok (.iload 4, 2) := by decide +kernel
theorem dL_law_2599 : decode cL_law 2599 = .ok (.iconst 2, 1) := by decide +kernel
theorem dL_law_2600 : decode cL_law 2600 = .ok (.iadd, 1) := by decide +kernel
theorem dL_law_2601 : decode cL_law 2601 = .ok (.iaload, 1) := by decide +kernel
theorem dL_law_2602 : decode cL_law 2602 = .ok (.aload_n 3, 1) := by decide +kernel
theorem dL_law_2603 : decode cL_law 2603 = .ok (.invokestatic 295, 3) := by decide +kernel
theorem dL_law_2606 : decode cL_law 2606 = .ok (.istore 5, 2) := by decide +kernel
theorem dL_law_2608 : decode cL_law 2608 = .ok (.aload_n 2, 1) := by decide +kernel
theorem dL_law_2609 : decode cL_law 2609 = .ok (.aload_n 0, 1) := by decide +kernel
theorem dL_law_2610 : decode cL_law 2610 = .ok (.iload 4, 2) := by decide +kernel
theorem dL_law_2612 : decode cL_law 2612 = .ok (.iconst 1, 1) := by decide +kernel
theorem dL_law_2613 : decode cL_law 2613 = .ok (.iadd, 1) := by decide +kernel
theorem dL_law_2614 : decode cL_law 2614 = .ok (.iaload, 1) := by decide +kernel
theorem dL_law_2615 : decode cL_law 2615 = .ok (.aload_n 0, 1) := by decide +kernel
theorem dL_law_2616 : decode cL_law 2616 = .ok (.iload 4, 2) := by decide +kernel
theorem dL_law_2618 : decode cL_law 2618 = .ok (.iconst 2, 1) := by decide +kernel
theorem dL_law_2619 : decode cL_law 2619 = .ok (.iadd, 1) := by decide +kernel
theorem dL_law_2620 : decode cL_law 2620 = .ok (.iaload, 1) := by decide +kernel
theorem dL_law_2621 : decode cL_law 2621 = .ok (.invokevirtual 297, 3) := by decide +kernel
theorem dL_law_2624 : decode cL_law 2624 = .ok (.istore 6, 2) := by decide +kernel
theorem dL_law_2626 : decode cL_law 2626 = .ok (.aload_n 2, 1) := by decide +kernel
theorem dL_law_2627 : decode cL_law 2627 = .ok (.invokevirtual 169, 3) := by decide +kernel
theorem dL_law_2630 : decode cL_law 2630 = .ok (.iload 5, 2) := by decide +kernel
theorem dL_law_2632 : decode cL_law 2632 = .ok (.if_icmp .eq 5, 3) := by decide +kernel
theorem dL_law_2637 : decode cL_law 2637 = .ok (.iload 5, 2) := by decide +kernel
theorem dL_law_2639 : decode cL_law 2639 = .ok (.ifCond .ne 15, 3) := by decide +kernel
theorem dL_law_2654 : decode cL_law 2654 = .ok (.goto 347, 3) := by decide +kernel
theorem dL_law_2642 : decode cL_law 2642 = .ok (.aload_n 3, 1) := by decide +kernel
theorem dL_law_2643 : decode cL_law 2643 = .ok (.iconst 0, 1) := by decide +kernel
theorem dL_law_2644 : decode cL_law 2644 = .ok (.laload, 1) := by decide +kernel
theorem dL_law_2645 : decode cL_law 2645 = .ok (.iload 6, 2) := by decide +kernel
theorem dL_law_2647 : decode cL_law 2647 = .ok (.i2l, 1) := by decide +kernel
theorem dL_law_2648 : decode cL_law 2648 = .ok (.lcmp, 1) := by decide +kernel
theorem dL_law_2649 : decode cL_law 2649 = .ok (.ifCond .eq 5, 3) := by decide +kernel
theorem dL_law_2657 : decode cL_law 2657 = .ok (.aload_n 1, 1) := by decide +kernel
theorem dL_law_2658 : decode cL_law 2658 = .ok (.aload_n 0, 1) := by decide +kernel
theorem dL_law_2659 : decode cL_law 2659 = .ok (.iload 4, 2) := by decide +kernel
theorem dL_law_2661 : decode cL_law 2661 = .ok (.iconst 1, 1) := by decide +kernel
theorem dL_law_2662 : decode cL_law 2662 = .ok (.iadd, 1) := by decide +kernel
theorem dL_law_2663 : decode cL_law 2663 = .ok (.iaload, 1) := by decide +kernel
theorem dL_law_2664 : decode cL_law 2664 = .ok (.aload_n 3, 1) := by decide +kernel
theorem dL_law_2665 : decode cL_law 2665 = .ok (.invokestatic 298, 3) := by decide +kernel
theorem dL_law_2668 : decode cL_law 2668 = .ok (.istore 5, 2) := by decide +kernel
theorem dL_law_2670 : decode cL_law 2670 = .ok (.aload_n 2, 1) := by decide +kernel
theorem dL_law_2671 : decode cL_law 2671 = .ok (.aload_n 0, 1) := by decide +kernel
theorem dL_law_2672 : decode cL_law 2672 = .ok (.iload 4, 2) := by decide +kernel
theorem dL_law_2674 : decode cL_law 2674 = .ok (.iconst 1, 1) := by decide +kernel
theorem dL_law_2675 : decode cL_law 2675 = .ok (.iadd, 1) := by decide +kernel
theorem dL_law_2676 : decode cL_law 2676 = .ok (.iaload, 1) := by decide +kernel
theorem dL_law_2677 : decode cL_law 2677 = .ok (.invokevirtual 300, 3) := by decide +kernel
theorem dL_law_2680 : decode cL_law 2680 = .ok (.istore 6, 2) := by decide +kernel
theorem dL_law_2682 : decode cL_law 2682 = .ok (.aload_n 2, 1) := by decide +kernel
theorem dL_law_2683 : decode cL_law 2683 = .ok (.invokevirtual 169, 3) := by decide +kernel
theorem dL_law_2686 : decode cL_law 2686 = .ok (.iload 5, 2) := by decide +kernel
theorem dL_law_2688 : decode cL_law 2688 = .ok (.if_icmp .eq 5, 3) := by decide +kernel
theorem dL_law_2693 : decode cL_law 2693 = .ok (.iload 5, 2) := by decide +kernel
theorem dL_law_2695 : decode cL_law 2695 = .ok (.ifCond .ne 15, 3) := by decide +kernel
theorem dL_law_2710 : decode cL_law 2710 = .ok (.goto 291, 3) := by decide +kernel
theorem dL_law_2698 : decode cL_law 2698 = .ok (.aload_n 3, 1) := by decide +kernel
theorem dL_law_2699 : decode cL_law 2699 = .ok (.iconst 0, 1) := by decide +kernel
theorem dL_law_2700 : decode cL_law 2700 = .ok (.laload, 1) := by decide +kernel
theorem dL_law_2701 : decode cL_law 2701 = .ok (.iload 6, 2) := by decide +kernel
theorem dL_law_2703 : decode cL_law 2703 = .ok (.i2l, 1) := by decide +kernel
theorem dL_law_2704 : decode cL_law 2704 = .ok (.lcmp, 1) := by decide +kernel
theorem dL_law_2705 : decode cL_law 2705 = .ok (.ifCond .eq 5, 3) := by decide +kernel
theorem dL_law_2713 : decode cL_law 2713 = .ok (.aload_n 1, 1) := by decide +kernel
theorem dL_law_2714 : decode cL_law 2714 = .ok (.aload_n 0, 1) := by decide +kernel
theorem dL_law_2715 : decode cL_law 2715 = .ok (.iload 4, 2) := by decide +kernel
theorem dL_law_2717 : decode cL_law 2717 = .ok (.iconst 1, 1) := by decide +kernel
theorem dL_law_2718 : decode cL_law 2718 = .ok (.iadd, 1) := by decide +kernel
theorem dL_law_2719 : decode cL_law 2719 = .ok (.iaload, 1) := by decide +kernel
theorem dL_law_2720 : decode cL_law 2720 = .ok (.aload_n 3, 1) := by decide +kernel
theorem dL_law_2721 : decode cL_law 2721 = .ok (.invokestatic 301, 3) := by decide +kernel
theorem dL_law_2724 : decode cL_law 2724 = .ok (.istore 5, 2) := by decide +kernel
theorem dL_law_2726 : decode cL_law 2726 = .ok (.aload_n 2, 1) := by decide +kernel
theorem dL_law_2727 : decode cL_law 2727 = .ok (.aload_n 0, 1) := by decide +kernel
theorem dL_law_2728 : decode cL_law 2728 = .ok (.iload 4, 2) := by decide +kernel
theorem dL_law_2730 : decode cL_law 2730 = .ok (.iconst 1, 1) := by decide +kernel
theorem dL_law_2731 : decode cL_law 2731 = .ok (.iadd, 1) := by decide +kernel
theorem dL_law_2732 : decode cL_law 2732 = .ok (.iaload, 1) := by decide +kernel
theorem dL_law_2733 : decode cL_law 2733 = .ok (.invokevirtual 303, 3) := by decide +kernel
theorem dL_law_2736 : decode cL_law 2736 = .ok (.istore 6, 2) := by decide +kernel
theorem dL_law_2738 : decode cL_law 2738 = .ok (.aload_n 2, 1) := by decide +kernel
theorem dL_law_2739 : decode cL_law 2739 = .ok (.invokevirtual 169, 3) := by decide +kernel
theorem dL_law_2742 : decode cL_law 2742 = .ok (.iload 5, 2) := by decide +kernel
theorem dL_law_2744 : decode cL_law 2744 = .ok (.if_icmp .eq 5, 3) := by decide +kernel
theorem dL_law_2749 : decode cL_law 2749 = .ok (.iload 5, 2) := by decide +kernel
theorem dL_law_2751 : decode cL_law 2751 = .ok (.ifCond .ne 15, 3) := by decide +kernel
theorem dL_law_2766 : decode cL_law 2766 = .ok (.goto 235, 3) := by decide +kernel
theorem dL_law_2754 : decode cL_law 2754 = .ok (.aload_n 3, 1) := by decide +kernel
theorem dL_law_2755 : decode cL_law 2755 = .ok (.iconst 0, 1) := by decide +kernel
theorem dL_law_2756 : decode cL_law 2756 = .ok (.laload, 1) := by decide +kernel
theorem dL_law_2757 : decode cL_law 2757 = .ok (.iload 6, 2) := by decide +kernel
theorem dL_law_2759 : decode cL_law 2759 = .ok (.i2l, 1) := by decide +kernel
theorem dL_law_2760 : decode cL_law 2760 = .ok (.lcmp, 1) := by decide +kernel
theorem dL_law_2761 : decode cL_law 2761 = .ok (.ifCond .eq 5, 3) := by decide +kernel
theorem dL_law_2769 : decode cL_law 2769 = .ok (.aload_n 1, 1) := by decide +kernel
theorem dL_law_2770 : decode cL_law 2770 = .ok (.aload_n 3, 1) := by decide +kernel
theorem dL_law_2771 : decode cL_law 2771 = .ok (.invokestatic 304, 3) := by decide +kernel
theorem dL_law_2774 : decode cL_law 2774 = .ok (.istore 5, 2) := by decide +kernel
theorem dL_law_2776 : decode cL_law 2776 = .ok (.aload_n 2, 1) := by decide +kernel
theorem dL_law_2777 : decode cL_law 2777 = .ok (.invokevirtual 306, 3) := by decide +kernel
theorem dL_law_2780 : decode cL_law 2780 = .ok (.istore 6, 2) := by decide +kernel
theorem dL_law_2782 : decode cL_law 2782 = .ok (.aload_n 2, 1) := by decide +kernel
theorem dL_law_2783 : decode cL_law 2783 = .ok (.invokevirtual 169, 3) := by decide +kernel
theorem dL_law_2786 : decode cL_law 2786 = .ok (.iload 5, 2) := by decide +kernel
theorem dL_law_2788 : decode cL_law 2788 = .ok (.if_icmp .eq 5, 3) := by decide +kernel
theorem dL_law_2793 : decode cL_law 2793 = .ok (.iload 5, 2) := by decide +kernel
theorem dL_law_2795 : decode cL_law 2795 = .ok (.ifCond .ne 15, 3) := by decide +kernel
theorem dL_law_2810 : decode cL_law 2810 = .ok (.goto 191, 3) := by decide +kernel
theorem dL_law_2798 : decode cL_law 2798 = .ok (.aload_n 3, 1) := by decide +kernel
theorem dL_law_2799 : decode cL_law 2799 = .ok (.iconst 0, 1) := by decide +kernel
theorem dL_law_2800 : decode cL_law 2800 = .ok (.laload, 1) := by decide +kernel
theorem dL_law_2801 : decode cL_law 2801 = .ok (.iload 6, 2) := by decide +kernel
theorem dL_law_2803 : decode cL_law 2803 = .ok (.i2l, 1) := by decide +kernel
theorem dL_law_2804 : decode cL_law 2804 = .ok (.lcmp, 1) := by decide +kernel
theorem dL_law_2805 : decode cL_law 2805 = .ok (.ifCond .eq 5, 3) := by decide +kernel
theorem dL_law_2813 : decode cL_law 2813 = .ok (.aload_n 1, 1) := by decide +kernel
theorem dL_law_2814 : decode cL_law 2814 = .ok (.aload_n 0, 1) := by decide +kernel
theorem dL_law_2815 : decode cL_law 2815 = .ok (.iload 4, 2) := by decide +kernel
theorem dL_law_2817 : decode cL_law 2817 = .ok (.iconst 1, 1) := by decide +kernel
theorem dL_law_2818 : decode cL_law 2818 = .ok (.iadd, 1) := by decide +kernel
theorem dL_law_2819 : decode cL_law 2819 = .ok (.iaload, 1) := by decide +kernel
theorem dL_law_2820 : decode cL_law 2820 = .ok (.aload_n 3, 1) := by decide +kernel
theorem dL_law_2821 : decode cL_law 2821 = .ok (.invokestatic 307, 3) := by decide +kernel
theorem dL_law_2824 : decode cL_law 2824 = .ok (.istore 5, 2) := by decide +kernel
theorem dL_law_2826 : decode cL_law 2826 = .ok (.aload_n 2, 1) := by decide +kernel
theorem dL_law_2827 : decode cL_law 2827 = .ok (.aload_n 0, 1) := by decide +kernel
theorem dL_law_2828 : decode cL_law 2828 = .ok (.iload 4, 2) := by decide +kernel
theorem dL_law_2830 : decode cL_law 2830 = .ok (.iconst 1, 1) := by decide +kernel
theorem dL_law_2831 : decode cL_law 2831 = .ok (.iadd, 1) := by decide +kernel
theorem dL_law_2832 : decode cL_law 2832 = .ok (.iaload, 1) := by decide +kernel
theorem dL_law_2833 : decode cL_law 2833 = .ok (.invokevirtual 309, 3) := by decide +kernel
theorem dL_law_2836 : decode cL_law 2836 = .ok (.istore 6, 2) := by decide +kernel
theorem dL_law_2838 : decode cL_law 2838 = .ok (.aload_n 2, 1) := by decide +kernel
theorem dL_law_2839 : decode cL_law 2839 = .ok (.invokevirtual 169, 3) := by decide +kernel
theorem dL_law_2842 : decode cL_law 2842 = .ok (.iload 5, 2) := by decide +kernel
theorem dL_law_2844 : decode cL_law 2844 = .ok (.if_icmp .eq 5, 3) := by decide +kernel
theorem dL_law_2849 : decode cL_law 2849 = .ok (.iload 5, 2) := by decide +kernel
theorem dL_law_2851 : decode cL_law 2851 = .ok (.ifCond .ne 15, 3) := by decide +kernel
theorem dL_law_2866 : decode cL_law 2866 = .ok (.goto 135, 3) := by decide +kernel
theorem dL_law_2854 : decode cL_law 2854 = .ok (.aload_n 3, 1) := by decide +kernel
theorem dL_law_2855 : decode cL_law 2855 = .ok (.iconst 0, 1) := by decide +kernel
theorem dL_law_2856 : decode cL_law 2856 = .ok (.laload, 1) := by decide +kernel
theorem dL_law_2857 : decode cL_law 2857 = .ok (.iload 6, 2) := by decide +kernel
theorem dL_law_2859 : decode cL_law 2859 = .ok (.i2l, 1) := by decide +kernel
theorem dL_law_2860 : decode cL_law 2860 = .ok (.lcmp, 1) := by decide +kernel
theorem dL_law_2861 : decode cL_law 2861 = .ok (.ifCond .eq 5, 3) := by decide +kernel
theorem dL_law_2869 : decode cL_law 2869 = .ok (.aload_n 1, 1) := by decide +kernel
theorem dL_law_2870 : decode cL_law 2870 = .ok (.aload_n 3, 1) := by decide +kernel
theorem dL_law_2871 : decode cL_law 2871 = .ok (.invokestatic 310, 3) := by decide +kernel
theorem dL_law_2874 : decode cL_law 2874 = .ok (.istore 5, 2) := by decide +kernel
theorem dL_law_2876 : decode cL_law 2876 = .ok (.aload_n 2, 1) := by decide +kernel
theorem dL_law_2877 : decode cL_law 2877 = .ok (.invokevirtual 312, 3) := by decide +kernel
theorem dL_law_2880 : decode cL_law 2880 = .ok (.istore 6, 2) := by decide +kernel
theorem dL_law_2882 : decode cL_law 2882 = .ok (.aload_n 2, 1) := by decide +kernel
theorem dL_law_2883 : decode cL_law 2883 = .ok (.invokevirtual 169, 3) := by decide +kernel
theorem dL_law_2886 : decode cL_law 2886 = .ok (.iload 5, 2) := by decide +kernel
theorem dL_law_2888 : decode cL_law 2888 = .ok (.if_icmp .eq 5, 3) := by decide +kernel
theorem dL_law_2893 : decode cL_law 2893 = .ok (.iload 5, 2) := by decide +kernel
theorem dL_law_2895 : decode cL_law 2895 = .ok (.ifCond .ne 15, 3) := by decide +kernel
theorem dL_law_2910 : decode cL_law 2910 = .ok (.goto 91, 3) := by decide +kernel
theorem dL_law_2898 : decode cL_law 2898 = .ok (.aload_n 3, 1) := by decide +kernel
theorem dL_law_2899 : decode cL_law 2899 = .ok (.iconst 0, 1) := by decide +kernel
theorem dL_law_2900 : decode cL_law 2900 = .ok (.laload, 1) := by decide +kernel
theorem dL_law_2901 : decode cL_law 2901 = .ok (.iload 6, 2) := by decide +kernel
theorem dL_law_2903 : decode cL_law 2903 = .ok (.i2l, 1) := by decide +kernel
theorem dL_law_2904 : decode cL_law 2904 = .ok (.lcmp, 1) := by decide +kernel
theorem dL_law_2905 : decode cL_law 2905 = .ok (.ifCond .eq 5, 3) := by decide +kernel
theorem dL_law_2913 : decode cL_law 2913 = .ok (.aload_n 1, 1) := by decide +kernel
theorem dL_law_2914 : decode cL_law 2914 = .ok (.aload_n 3, 1) := by decide +kernel
theorem dL_law_2915 : decode cL_law 2915 = .ok (.invokestatic 313, 3) := by decide +kernel
theorem dL_law_2918 : decode cL_law 2918 = .ok (.istore 5, 2) := by decide +kernel
theorem dL_law_2920 : decode cL_law 2920 = .ok (.aload_n 2, 1) := by decide +kernel
theorem dL_law_2921 : decode cL_law 2921 = .ok (.invokevirtual 315, 3) := by decide +kernel
theorem dL_law_2924 : decode cL_law 2924 = .ok (.istore 6, 2) := by decide +kernel
theorem dL_law_2926 : decode cL_law 2926 = .ok (.aload_n 2, 1) := by decide +kernel
theorem dL_law_2927 : decode cL_law 2927 = .ok (.invokevirtual 169, 3) := by decide +kernel
theorem dL_law_2930 : decode cL_law 2930 = .ok (.iload 5, 2) := by decide +kernel
theorem dL_law_2932 : decode cL_law 2932 = .ok (.if_icmp .eq 5, 3) := by decide +kernel
theorem dL_law_2937 : decode cL_law 2937 = .ok (.iload 5, 2) := by decide +kernel
theorem dL_law_2939 : decode cL_law 2939 = .ok (.ifCond .ne 15, 3) := by decide +kernel
theorem dL_law_2954 : decode cL_law 2954 = .ok (.goto 47, 3) := by decide +kernel
theorem dL_law_2942 : decode cL_law 2942 = .ok (.aload_n 3, 1) := by decide +kernel
theorem dL_law_2943 : decode cL_law 2943 = .ok (.iconst 0, 1) := by decide +kernel
theorem dL_law_2944 : decode cL_law 2944 = .ok (.laload, 1) := by decide +kernel
theorem dL_law_2945 : decode cL_law 2945 = .ok (.iload 6, 2) := by decide +kernel
theorem dL_law_2947 : decode cL_law 2947 = .ok (.i2l, 1) := by decide +kernel
theorem dL_law_2948 : decode cL_law 2948 = .ok (.lcmp, 1) := by decide +kernel
theorem dL_law_2949 : decode cL_law 2949 = .ok (.ifCond .eq 5, 3) := by decide +kernel
theorem dL_law_2957 : decode cL_law 2957 = .ok (.aload_n 1, 1) := by decide +kernel
theorem dL_law_2958 : decode cL_law 2958 = .ok (.aload_n 3, 1) := by decide +kernel
theorem dL_law_2959 : decode cL_law 2959 = .ok (.invokestatic 316, 3) := by decide +kernel
theorem dL_law_2962 : decode cL_law 2962 = .ok (.istore 5, 2) := by decide +kernel
theorem dL_law_2964 : decode cL_law 2964 = .ok (.aload_n 2, 1) := by decide +kernel
theorem dL_law_2965 : decode cL_law 2965 = .ok (.invokevirtual 318, 3) := by decide +kernel
theorem dL_law_2968 : decode cL_law 2968 = .ok (.istore 6, 2) := by decide +kernel
theorem dL_law_2970 : decode cL_law 2970 = .ok (.aload_n 2, 1) := by decide +kernel
theorem dL_law_2971 : decode cL_law 2971 = .ok (.invokevirtual 169, 3) := by decide +kernel
theorem dL_law_2974 : decode cL_law 2974 = .ok (.iload 5, 2) := by decide +kernel
theorem dL_law_2976 : decode cL_law 2976 = .ok (.if_icmp .eq 5, 3) := by decide +kernel
theorem dL_law_2981 : decode cL_law 2981 = .ok (.iload 5, 2) := by decide +kernel
theorem dL_law_2983 : decode cL_law 2983 = .ok (.ifCond .ne 15, 3) := by decide +kernel
theorem dL_law_2998 : decode cL_law 2998 = .ok (.goto 3, 3) := by decide +kernel
theorem dL_law_2986 : decode cL_law 2986 = .ok (.aload_n 3, 1) := by decide +kernel
theorem dL_law_2987 : decode cL_law 2987 = .ok (.iconst 0, 1) := by decide +kernel
theorem dL_law_2988 : decode cL_law 2988 = .ok (.laload, 1) := by decide +kernel
theorem dL_law_2989 : decode cL_law 2989 = .ok (.iload 6, 2) := by decide +kernel
theorem dL_law_2991 : decode cL_law 2991 = .ok (.i2l, 1) := by decide +kernel
theorem dL_law_2992 : decode cL_law 2992 = .ok (.lcmp, 1) := by decide +kernel
theorem dL_law_2993 : decode cL_law 2993 = .ok (.ifCond .eq 5, 3) := by decide +kernel
theorem dL_law_40 : decode cL_law 40 = .ok (.tableswitch 2961 0 47 #[208, 312, 368, 381, 394, 474, 530, 598, 654, 710, 766, 834, 902, 970, 1026, 1082, 1162, 1218, 1262, 1306, 1350, 1406, 1486, 1542, 1610, 1690, 1734, 1778, 1846, 1902, 1982, 2050, 2130, 2186, 2249, 2293, 2337, 2393, 2449, 2505, 2549, 2617, 2673, 2729, 2773, 2829, 2873, 2917], 208) := by decide +kernel
section Law
variable {G : Gx} {I : (Nat → Nat → Int32) → Prop} {mm : Nat → Nat → Int32} {lm : Nat → Int64} {o : Ou} {a b k : Nat}
theorem th_hyp {mm : Nat → Nat → Int32} {lm : Nat → Int64} : Ct G M_X10_thrown [.ref 63] (SH, mm, lm) false (.inl (some (.int (mm 63 4)))) (SH, mm, lm) false 0 0 :=
  ct_of_J (by decide +kernel) rfl (by decide) (bX10_thrown_0 ⟨rfl, rfl⟩)
theorem J_more {M : Md} {pc : Nat} {L : List (Nat × Value)} {st : List Value} {w z : Wd} {g h : Bool} {o : Ou} {a b a' b' : Nat} (ha : a ≤ a') (hb : b ≤ b') (k : J G M pc L st w g o z h a b) : J G M pc L st w g o z h a' b' := by
  intro p e R s m args below meth c C H locs ls cells slots hR hl h1 h2
  have q := k p e R s m args below meth c C H locs ls (cells + (a' - a)) (slots + (b' - b)) hR hl (by omega) (by omega)
  rw [show cells + (a' - a) + a = cells + a' by omega, show slots + (b' - b) + b = slots + b' by omega] at q
  exact W.widen (by omega) (by omega) q
def OPS (G : Gx) (I : (Nat → Nat → Int32) → Prop) : Prop := ∀ k : Nat, k + 5 < Gn G →
  (OpW G I M_L_append M_X10_append [.int (Gs G (k + 1)), .int (Gs G (k + 2)), .int (Gs G (k + 3)), .int (Gs G (k + 4)), .int (Gs G (k + 5))] cmpI) ∧
  (OpW G I M_L_truncate M_X10_truncate [.int (Gs G (k + 1))] cmpI) ∧
  (OpD G I M_X9_load M_X10_load) ∧
  (OpD G I M_X9_errorPosition M_X10_errorPosition) ∧
  (OpW G I M_L_hang M_X10_hang [.int (Gs G (k + 1)), .int (Gs G (k + 2)), .int (Gs G (k + 3))] cmpI) ∧
  (OpW G I M_L_takeDown M_X10_takeDown [.int (Gs G (k + 1))] cmpI) ∧
  (OpW G I M_L_shift M_X10_shift [.int (Gs G (k + 1)), .int (Gs G (k + 2))] cmpI) ∧
  (OpW G I M_L_beamOf M_X10_beamOf [.int (Gs G (k + 1))] cmpI) ∧
  (OpW G I M_L_positionOf M_X10_positionOf [.int (Gs G (k + 1))] cmpI) ∧
  (OpW G I M_L_torque M_X10_torque [.int (Gs G (k + 1))] cmpI) ∧
  (OpW G I M_L_bellAt M_X10_bellAt [.int (Gs G (k + 1)), .int (Gs G (k + 2))] cmpI) ∧
  (OpW G I M_L_freePositions M_X10_freePositions [.int (Gs G (k + 1)), .int (Gs G (k + 2))] cmpI) ∧
  (OpW G I M_L_bestPosition M_X10_bestPosition [.int (Gs G (k + 1)), .int (Gs G (k + 2))] cmpI) ∧
  (OpW G I M_L_mirroredTorque M_X10_mirroredTorque [.int (Gs G (k + 1))] cmpI) ∧
  (OpW G I M_L_mirroredBells M_X10_mirroredBells [.int (Gs G (k + 1))] cmpI) ∧
  (OpW G I M_L_setPlan M_X10_setPlan [.int (Gs G (k + 1)), .int (Gs G (k + 2)), .int (Gs G (k + 3))] cmpI) ∧
  (OpW G I M_L_clearPlan M_X10_clearPlan [.int (Gs G (k + 1))] cmpI) ∧
  (OpW G I M_L_planConflicts M_X10_planConflicts [] cmpI) ∧
  (OpW G I M_L_planUnbalanced M_X10_planUnbalanced [] cmpI) ∧
  (OpW G I M_L_stepsToPlan M_X10_stepsToPlan [] cmpI) ∧
  (OpW G I M_L_planStep M_X10_planStep [.int (Gs G (k + 1))] cmpI) ∧
  (OpW G I M_L_startSwing M_X10_startSwing [.int (Gs G (k + 1)), .int (Gs G (k + 2)), .int (Gs G (k + 3))] cmpI) ∧
  (OpW G I M_L_stopSwing M_X10_stopSwing [.int (Gs G (k + 1))] cmpI) ∧
  (OpW G I M_L_offset M_X10_offset [.int (Gs G (k + 1)), .int (Gs G (k + 2))] cmpI) ∧
  (OpW G I M_L_gap M_X10_gap [.int (Gs G (k + 1)), .int (Gs G (k + 2)), .int (Gs G (k + 3))] cmpI) ∧
  (OpW G I M_L_firstCollision M_X10_firstCollision [] cmpI) ∧
  (OpW G I M_L_collidingBells M_X10_collidingBells [] cmpI) ∧
  (OpW G I M_L_safeStart M_X10_safeStart [.int (Gs G (k + 1)), .int (Gs G (k + 2))] cmpI) ∧
  (OpW G I M_L_safeAmplitude M_X10_safeAmplitude [.int (Gs G (k + 1))] cmpI) ∧
  (OpW G I M_L_strikes M_X10_strikes [.int (Gs G (k + 1)), .int (Gs G (k + 2)), .int (Gs G (k + 3))] cmpI) ∧
  (OpW G I M_L_strikeTogether M_X10_strikeTogether [.int (Gs G (k + 1)), .int (Gs G (k + 2))] cmpI) ∧
  (OpW G I M_L_setChime M_X10_setChime [.int (Gs G (k + 1)), .int (Gs G (k + 2)), .int (Gs G (k + 3))] cmpI) ∧
  (OpW G I M_L_clearChime M_X10_clearChime [.int (Gs G (k + 1))] cmpI) ∧
  (OpW G I M_L_isQuiet M_X10_isQuiet [.int (Gs G (k + 1))] cmpB) ∧
  (OpW G I M_L_quietMinutes M_X10_quietMinutes [] cmpI) ∧
  (OpW G I M_L_longestLoud M_X10_longestLoud [] cmpI) ∧
  (OpW G I M_L_soundsAt M_X10_soundsAt [.int (Gs G (k + 1))] cmpI) ∧
  (OpW G I M_L_soundsPerDay M_X10_soundsPerDay [.int (Gs G (k + 1))] cmpI) ∧
  (OpW G I M_L_nextSound M_X10_nextSound [.int (Gs G (k + 1))] cmpI) ∧
  (OpW G I M_L_busiestMinute M_X10_busiestMinute [] cmpI) ∧
  (OpW G I M_L_soundTogether M_X10_soundTogether [.int (Gs G (k + 1)), .int (Gs G (k + 2))] cmpI) ∧
  (OpW G I M_L_leastDelay M_X10_leastDelay [.int (Gs G (k + 1))] cmpI) ∧
  (OpW G I M_L_ropeLength M_X10_ropeLength [.int (Gs G (k + 1))] cmpI) ∧
  (OpW G I M_L_fewestPieces M_X10_fewestPieces [] cmpI) ∧
  (OpW G I M_L_pieceOf M_X10_pieceOf [.int (Gs G (k + 1))] cmpI) ∧
  (OpW G I M_L_waste M_X10_waste [] cmpI) ∧
  (OpW G I M_L_extraPiece M_X10_extraPiece [] cmpI) ∧
  (OpW G I M_L_undo M_X10_undo [] cmpI)
end Law
