/-! ===== the law's calls of the class: what is answered lies in out, what is thrown is a number ===== -/
def shk (x : Sh) : Nat := match x with
  | .inr (.inl (t, _)) => t
  | _ => 99
theorem sh_out : ∀ (a m : Nat), a ≠ 85 → SH[a]? ≠ some (.inr (.inl (3, m))) := by
  intro a m ha h
  have h1 : (SH.map shk)[a]? = some 3 := by rw [List.getElem?_map, h]; rfl
  have h2 : a < 86 := by have := (List.getElem?_eq_some_iff.mp h).1; exact this
  have h3 : ∀ a, a < 86 → a ≠ 85 → (SH.map shk)[a]? ≠ some 3 := by decide
  exact h3 a h2 ha h1
theorem gw_623 : Cond.classLink "BellTowerPlannerLaw" 13 "java/lang/IllegalStateException" ∈ gt := gt_in (List.mem_of_getElem? (i := 623) (by decide +kernel)) (by decide +kernel)
theorem gw_624 : Cond.methodLink "BellTowerPlannerLaw" 7 ⟨"BellTowerPlanner", "append", "(IIIII)I"⟩ ∈ gt := gt_in (List.mem_of_getElem? (i := 624) (by decide +kernel)) (by decide +kernel)
theorem gw_625 : Cond.instanceMethod ⟨"BellTowerPlanner", "append", "(IIIII)I"⟩ ∈ gt := gt_in (List.mem_of_getElem? (i := 625) (by decide +kernel)) (by decide +kernel)
theorem gw_626 : Cond.selects "BellTowerPlanner" ⟨"BellTowerPlanner", "append", "(IIIII)I"⟩ ⟨"BellTowerPlanner", "append", "(IIIII)I"⟩ ∈ gt := gt_in (List.mem_of_getElem? (i := 626) (by decide +kernel)) (by decide +kernel)
theorem gw_627 : Cond.code ⟨"BellTowerPlanner", "append", "(IIIII)I"⟩ prog_1_method_2_code 6 (some .int) ∈ gt := gt_in (List.mem_of_getElem? (i := 627) (by decide +kernel)) (by decide +kernel)
theorem gw_702 : Cond.classLink "BellTowerPlannerLaw" 19 "java/lang/IllegalArgumentException" ∈ gt := gt_in (List.mem_of_getElem? (i := 702) (by decide +kernel)) (by decide +kernel)
theorem gw_703 : Cond.methodLink "BellTowerPlannerLaw" 15 ⟨"BellTowerPlanner", "truncate", "(I)I"⟩ ∈ gt := gt_in (List.mem_of_getElem? (i := 703) (by decide +kernel)) (by decide +kernel)
theorem gw_704 : Cond.instanceMethod ⟨"BellTowerPlanner", "truncate", "(I)I"⟩ ∈ gt := gt_in (List.mem_of_getElem? (i := 704) (by decide +kernel)) (by decide +kernel)
theorem gw_705 : Cond.selects "BellTowerPlanner" ⟨"BellTowerPlanner", "truncate", "(I)I"⟩ ⟨"BellTowerPlanner", "truncate", "(I)I"⟩ ∈ gt := gt_in (List.mem_of_getElem? (i := 705) (by decide +kernel)) (by decide +kernel)
theorem gw_706 : Cond.code ⟨"BellTowerPlanner", "truncate", "(I)I"⟩ prog_1_method_3_code 2 (some .int) ∈ gt := gt_in (List.mem_of_getElem? (i := 706) (by decide +kernel)) (by decide +kernel)
theorem gw_729 : Cond.methodLink "BellTowerPlannerLaw" 21 ⟨"BellTowerPlanner", "hang", "(III)I"⟩ ∈ gt := gt_in (List.mem_of_getElem? (i := 729) (by decide +kernel)) (by decide +kernel)
theorem gw_730 : Cond.instanceMethod ⟨"BellTowerPlanner", "hang", "(III)I"⟩ ∈ gt := gt_in (List.mem_of_getElem? (i := 730) (by decide +kernel)) (by decide +kernel)
theorem gw_731 : Cond.selects "BellTowerPlanner" ⟨"BellTowerPlanner", "hang", "(III)I"⟩ ⟨"BellTowerPlanner", "hang", "(III)I"⟩ ∈ gt := gt_in (List.mem_of_getElem? (i := 731) (by decide +kernel)) (by decide +kernel)
theorem gw_732 : Cond.code ⟨"BellTowerPlanner", "hang", "(III)I"⟩ prog_1_method_6_code 5 (some .int) ∈ gt := gt_in (List.mem_of_getElem? (i := 732) (by decide +kernel)) (by decide +kernel)
theorem gw_796 : Cond.methodLink "BellTowerPlannerLaw" 25 ⟨"BellTowerPlanner", "takeDown", "(I)I"⟩ ∈ gt := gt_in (List.mem_of_getElem? (i := 796) (by decide +kernel)) (by decide +kernel)
theorem gw_797 : Cond.instanceMethod ⟨"BellTowerPlanner", "takeDown", "(I)I"⟩ ∈ gt := gt_in (List.mem_of_getElem? (i := 797) (by decide +kernel)) (by decide +kernel)
theorem gw_798 : Cond.selects "BellTowerPlanner" ⟨"BellTowerPlanner", "takeDown", "(I)I"⟩ ⟨"BellTowerPlanner", "takeDown", "(I)I"⟩ ∈ gt := gt_in (List.mem_of_getElem? (i := 798) (by decide +kernel)) (by decide +kernel)
theorem gw_799 : Cond.code ⟨"BellTowerPlanner", "takeDown", "(I)I"⟩ prog_1_method_7_code 3 (some .int) ∈ gt := gt_in (List.mem_of_getElem? (i := 799) (by decide +kernel)) (by decide +kernel)
theorem gw_805 : Cond.methodLink "BellTowerPlannerLaw" 28 ⟨"BellTowerPlanner", "shift", "(II)I"⟩ ∈ gt := gt_in (List.mem_of_getElem? (i := 805) (by decide +kernel)) (by decide +kernel)
theorem gw_806 : Cond.instanceMethod ⟨"BellTowerPlanner", "shift", "(II)I"⟩ ∈ gt := gt_in (List.mem_of_getElem? (i := 806) (by decide +kernel)) (by decide +kernel)
theorem gw_807 : Cond.selects "BellTowerPlanner" ⟨"BellTowerPlanner", "shift", "(II)I"⟩ ⟨"BellTowerPlanner", "shift", "(II)I"⟩ ∈ gt := gt_in (List.mem_of_getElem? (i := 807) (by decide +kernel)) (by decide +kernel)
theorem gw_808 : Cond.code ⟨"BellTowerPlanner", "shift", "(II)I"⟩ prog_1_method_8_code 5 (some .int) ∈ gt := gt_in (List.mem_of_getElem? (i := 808) (by decide +kernel)) (by decide +kernel)
theorem gw_812 : Cond.methodLink "BellTowerPlannerLaw" 32 ⟨"BellTowerPlanner", "beamOf", "(I)I"⟩ ∈ gt := gt_in (List.mem_of_getElem? (i := 812) (by decide +kernel)) (by decide +kernel)
theorem gw_813 : Cond.instanceMethod ⟨"BellTowerPlanner", "beamOf", "(I)I"⟩ ∈ gt := gt_in (List.mem_of_getElem? (i := 813) (by decide +kernel)) (by decide +kernel)
theorem gw_814 : Cond.selects "BellTowerPlanner" ⟨"BellTowerPlanner", "beamOf", "(I)I"⟩ ⟨"BellTowerPlanner", "beamOf", "(I)I"⟩ ∈ gt := gt_in (List.mem_of_getElem? (i := 814) (by decide +kernel)) (by decide +kernel)
theorem gw_815 : Cond.code ⟨"BellTowerPlanner", "beamOf", "(I)I"⟩ prog_1_method_9_code 2 (some .int) ∈ gt := gt_in (List.mem_of_getElem? (i := 815) (by decide +kernel)) (by decide +kernel)
theorem gw_819 : Cond.classLink "BellTowerPlannerLaw" 38 "java/util/NoSuchElementException" ∈ gt := gt_in (List.mem_of_getElem? (i := 819) (by decide +kernel)) (by decide +kernel)
theorem gw_820 : Cond.methodLink "BellTowerPlannerLaw" 35 ⟨"BellTowerPlanner", "positionOf", "(I)I"⟩ ∈ gt := gt_in (List.mem_of_getElem? (i := 820) (by decide +kernel)) (by decide +kernel)
theorem gw_821 : Cond.instanceMethod ⟨"BellTowerPlanner", "positionOf", "(I)I"⟩ ∈ gt := gt_in (List.mem_of_getElem? (i := 821) (by decide +kernel)) (by decide +kernel)
theorem gw_822 : Cond.selects "BellTowerPlanner" ⟨"BellTowerPlanner", "positionOf", "(I)I"⟩ ⟨"BellTowerPlanner", "positionOf", "(I)I"⟩ ∈ gt := gt_in (List.mem_of_getElem? (i := 822) (by decide +kernel)) (by decide +kernel)
theorem gw_823 : Cond.code ⟨"BellTowerPlanner", "positionOf", "(I)I"⟩ prog_1_method_10_code 2 (some .int) ∈ gt := gt_in (List.mem_of_getElem? (i := 823) (by decide +kernel)) (by decide +kernel)
theorem gw_847 : Cond.methodLink "BellTowerPlannerLaw" 40 ⟨"BellTowerPlanner", "torque", "(I)I"⟩ ∈ gt := gt_in (List.mem_of_getElem? (i := 847) (by decide +kernel)) (by decide +kernel)
theorem gw_848 : Cond.instanceMethod ⟨"BellTowerPlanner", "torque", "(I)I"⟩ ∈ gt := gt_in (List.mem_of_getElem? (i := 848) (by decide +kernel)) (by decide +kernel)
theorem gw_849 : Cond.selects "BellTowerPlanner" ⟨"BellTowerPlanner", "torque", "(I)I"⟩ ⟨"BellTowerPlanner", "torque", "(I)I"⟩ ∈ gt := gt_in (List.mem_of_getElem? (i := 849) (by decide +kernel)) (by decide +kernel)
theorem gw_850 : Cond.code ⟨"BellTowerPlanner", "torque", "(I)I"⟩ prog_1_method_11_code 2 (some .int) ∈ gt := gt_in (List.mem_of_getElem? (i := 850) (by decide +kernel)) (by decide +kernel)
theorem gw_854 : Cond.methodLink "BellTowerPlannerLaw" 43 ⟨"BellTowerPlanner", "bellAt", "(II)I"⟩ ∈ gt := gt_in (List.mem_of_getElem? (i := 854) (by decide +kernel)) (by decide +kernel)
theorem gw_855 : Cond.instanceMethod ⟨"BellTowerPlanner", "bellAt", "(II)I"⟩ ∈ gt := gt_in (List.mem_of_getElem? (i := 855) (by decide +kernel)) (by decide +kernel)
theorem gw_856 : Cond.selects "BellTowerPlanner" ⟨"BellTowerPlanner", "bellAt", "(II)I"⟩ ⟨"BellTowerPlanner", "bellAt", "(II)I"⟩ ∈ gt := gt_in (List.mem_of_getElem? (i := 856) (by decide +kernel)) (by decide +kernel)
theorem gw_857 : Cond.code ⟨"BellTowerPlanner", "bellAt", "(II)I"⟩ prog_1_method_12_code 3 (some .int) ∈ gt := gt_in (List.mem_of_getElem? (i := 857) (by decide +kernel)) (by decide +kernel)
theorem gw_875 : Cond.methodLink "BellTowerPlannerLaw" 46 ⟨"BellTowerPlanner", "freePositions", "(II)I"⟩ ∈ gt := gt_in (List.mem_of_getElem? (i := 875) (by decide +kernel)) (by decide +kernel)
theorem gw_876 : Cond.instanceMethod ⟨"BellTowerPlanner", "freePositions", "(II)I"⟩ ∈ gt := gt_in (List.mem_of_getElem? (i := 876) (by decide +kernel)) (by decide +kernel)
theorem gw_877 : Cond.selects "BellTowerPlanner" ⟨"BellTowerPlanner", "freePositions", "(II)I"⟩ ⟨"BellTowerPlanner", "freePositions", "(II)I"⟩ ∈ gt := gt_in (List.mem_of_getElem? (i := 877) (by decide +kernel)) (by decide +kernel)
theorem gw_878 : Cond.code ⟨"BellTowerPlanner", "freePositions", "(II)I"⟩ prog_1_method_13_code 3 (some .int) ∈ gt := gt_in (List.mem_of_getElem? (i := 878) (by decide +kernel)) (by decide +kernel)
theorem gw_887 : Cond.methodLink "BellTowerPlannerLaw" 49 ⟨"BellTowerPlanner", "bestPosition", "(II)I"⟩ ∈ gt := gt_in (List.mem_of_getElem? (i := 887) (by decide +kernel)) (by decide +kernel)
theorem gw_888 : Cond.instanceMethod ⟨"BellTowerPlanner", "bestPosition", "(II)I"⟩ ∈ gt := gt_in (List.mem_of_getElem? (i := 888) (by decide +kernel)) (by decide +kernel)
theorem gw_889 : Cond.selects "BellTowerPlanner" ⟨"BellTowerPlanner", "bestPosition", "(II)I"⟩ ⟨"BellTowerPlanner", "bestPosition", "(II)I"⟩ ∈ gt := gt_in (List.mem_of_getElem? (i := 889) (by decide +kernel)) (by decide +kernel)
theorem gw_890 : Cond.code ⟨"BellTowerPlanner", "bestPosition", "(II)I"⟩ prog_1_method_14_code 3 (some .int) ∈ gt := gt_in (List.mem_of_getElem? (i := 890) (by decide +kernel)) (by decide +kernel)
theorem gw_900 : Cond.methodLink "BellTowerPlannerLaw" 52 ⟨"BellTowerPlanner", "mirroredTorque", "(I)I"⟩ ∈ gt := gt_in (List.mem_of_getElem? (i := 900) (by decide +kernel)) (by decide +kernel)
theorem gw_901 : Cond.instanceMethod ⟨"BellTowerPlanner", "mirroredTorque", "(I)I"⟩ ∈ gt := gt_in (List.mem_of_getElem? (i := 901) (by decide +kernel)) (by decide +kernel)
theorem gw_902 : Cond.selects "BellTowerPlanner" ⟨"BellTowerPlanner", "mirroredTorque", "(I)I"⟩ ⟨"BellTowerPlanner", "mirroredTorque", "(I)I"⟩ ∈ gt := gt_in (List.mem_of_getElem? (i := 902) (by decide +kernel)) (by decide +kernel)
theorem gw_903 : Cond.code ⟨"BellTowerPlanner", "mirroredTorque", "(I)I"⟩ prog_1_method_15_code 2 (some .int) ∈ gt := gt_in (List.mem_of_getElem? (i := 903) (by decide +kernel)) (by decide +kernel)
theorem gw_935 : Cond.methodLink "BellTowerPlannerLaw" 55 ⟨"BellTowerPlanner", "mirroredBells", "(I)I"⟩ ∈ gt := gt_in (List.mem_of_getElem? (i := 935) (by decide +kernel)) (by decide +kernel)
theorem gw_936 : Cond.instanceMethod ⟨"BellTowerPlanner", "mirroredBells", "(I)I"⟩ ∈ gt := gt_in (List.mem_of_getElem? (i := 936) (by decide +kernel)) (by decide +kernel)
theorem gw_937 : Cond.selects "BellTowerPlanner" ⟨"BellTowerPlanner", "mirroredBells", "(I)I"⟩ ⟨"BellTowerPlanner", "mirroredBells", "(I)I"⟩ ∈ gt := gt_in (List.mem_of_getElem? (i := 937) (by decide +kernel)) (by decide +kernel)
theorem gw_938 : Cond.code ⟨"BellTowerPlanner", "mirroredBells", "(I)I"⟩ prog_1_method_16_code 2 (some .int) ∈ gt := gt_in (List.mem_of_getElem? (i := 938) (by decide +kernel)) (by decide +kernel)
theorem gw_942 : Cond.methodLink "BellTowerPlannerLaw" 58 ⟨"BellTowerPlanner", "setPlan", "(III)I"⟩ ∈ gt := gt_in (List.mem_of_getElem? (i := 942) (by decide +kernel)) (by decide +kernel)
theorem gw_943 : Cond.instanceMethod ⟨"BellTowerPlanner", "setPlan", "(III)I"⟩ ∈ gt := gt_in (List.mem_of_getElem? (i := 943) (by decide +kernel)) (by decide +kernel)
theorem gw_944 : Cond.selects "BellTowerPlanner" ⟨"BellTowerPlanner", "setPlan", "(III)I"⟩ ⟨"BellTowerPlanner", "setPlan", "(III)I"⟩ ∈ gt := gt_in (List.mem_of_getElem? (i := 944) (by decide +kernel)) (by decide +kernel)
theorem gw_945 : Cond.code ⟨"BellTowerPlanner", "setPlan", "(III)I"⟩ prog_1_method_17_code 4 (some .int) ∈ gt := gt_in (List.mem_of_getElem? (i := 945) (by decide +kernel)) (by decide +kernel)
theorem gw_957 : Cond.methodLink "BellTowerPlannerLaw" 61 ⟨"BellTowerPlanner", "clearPlan", "(I)I"⟩ ∈ gt := gt_in (List.mem_of_getElem? (i := 957) (by decide +kernel)) (by decide +kernel)
theorem gw_958 : Cond.instanceMethod ⟨"BellTowerPlanner", "clearPlan", "(I)I"⟩ ∈ gt := gt_in (List.mem_of_getElem? (i := 958) (by decide +kernel)) (by decide +kernel)
theorem gw_959 : Cond.selects "BellTowerPlanner" ⟨"BellTowerPlanner", "clearPlan", "(I)I"⟩ ⟨"BellTowerPlanner", "clearPlan", "(I)I"⟩ ∈ gt := gt_in (List.mem_of_getElem? (i := 959) (by decide +kernel)) (by decide +kernel)
theorem gw_960 : Cond.code ⟨"BellTowerPlanner", "clearPlan", "(I)I"⟩ prog_1_method_18_code 2 (some .int) ∈ gt := gt_in (List.mem_of_getElem? (i := 960) (by decide +kernel)) (by decide +kernel)
theorem gw_965 : Cond.methodLink "BellTowerPlannerLaw" 64 ⟨"BellTowerPlanner", "planConflicts", "()I"⟩ ∈ gt := gt_in (List.mem_of_getElem? (i := 965) (by decide +kernel)) (by decide +kernel)
theorem gw_966 : Cond.instanceMethod ⟨"BellTowerPlanner", "planConflicts", "()I"⟩ ∈ gt := gt_in (List.mem_of_getElem? (i := 966) (by decide +kernel)) (by decide +kernel)
theorem gw_967 : Cond.selects "BellTowerPlanner" ⟨"BellTowerPlanner", "planConflicts", "()I"⟩ ⟨"BellTowerPlanner", "planConflicts", "()I"⟩ ∈ gt := gt_in (List.mem_of_getElem? (i := 967) (by decide +kernel)) (by decide +kernel)
theorem gw_968 : Cond.code ⟨"BellTowerPlanner", "planConflicts", "()I"⟩ prog_1_method_19_code 1 (some .int) ∈ gt := gt_in (List.mem_of_getElem? (i := 968) (by decide +kernel)) (by decide +kernel)
theorem gw_1003 : Cond.methodLink "BellTowerPlannerLaw" 68 ⟨"BellTowerPlanner", "planUnbalanced", "()I"⟩ ∈ gt := gt_in (List.mem_of_getElem? (i := 1003) (by decide +kernel)) (by decide +kernel)
theorem gw_1004 : Cond.instanceMethod ⟨"BellTowerPlanner", "planUnbalanced", "()I"⟩ ∈ gt := gt_in (List.mem_of_getElem? (i := 1004) (by decide +kernel)) (by decide +kernel)
theorem gw_1005 : Cond.selects "BellTowerPlanner" ⟨"BellTowerPlanner", "planUnbalanced", "()I"⟩ ⟨"BellTowerPlanner", "planUnbalanced", "()I"⟩ ∈ gt := gt_in (List.mem_of_getElem? (i := 1005) (by decide +kernel)) (by decide +kernel)
theorem gw_1006 : Cond.code ⟨"BellTowerPlanner", "planUnbalanced", "()I"⟩ prog_1_method_20_code 1 (some .int) ∈ gt := gt_in (List.mem_of_getElem? (i := 1006) (by decide +kernel)) (by decide +kernel)
theorem gw_1019 : Cond.methodLink "BellTowerPlannerLaw" 71 ⟨"BellTowerPlanner", "stepsToPlan", "()I"⟩ ∈ gt := gt_in (List.mem_of_getElem? (i := 1019) (by decide +kernel)) (by decide +kernel)
theorem gw_1020 : Cond.instanceMethod ⟨"BellTowerPlanner", "stepsToPlan", "()I"⟩ ∈ gt := gt_in (List.mem_of_getElem? (i := 1020) (by decide +kernel)) (by decide +kernel)
theorem gw_1021 : Cond.selects "BellTowerPlanner" ⟨"BellTowerPlanner", "stepsToPlan", "()I"⟩ ⟨"BellTowerPlanner", "stepsToPlan", "()I"⟩ ∈ gt := gt_in (List.mem_of_getElem? (i := 1021) (by decide +kernel)) (by decide +kernel)
theorem gw_1022 : Cond.code ⟨"BellTowerPlanner", "stepsToPlan", "()I"⟩ prog_1_method_21_code 1 (some .int) ∈ gt := gt_in (List.mem_of_getElem? (i := 1022) (by decide +kernel)) (by decide +kernel)
theorem gw_1054 : Cond.methodLink "BellTowerPlannerLaw" 74 ⟨"BellTowerPlanner", "planStep", "(I)I"⟩ ∈ gt := gt_in (List.mem_of_getElem? (i := 1054) (by decide +kernel)) (by decide +kernel)
theorem gw_1055 : Cond.instanceMethod ⟨"BellTowerPlanner", "planStep", "(I)I"⟩ ∈ gt := gt_in (List.mem_of_getElem? (i := 1055) (by decide +kernel)) (by decide +kernel)
theorem gw_1056 : Cond.selects "BellTowerPlanner" ⟨"BellTowerPlanner", "planStep", "(I)I"⟩ ⟨"BellTowerPlanner", "planStep", "(I)I"⟩ ∈ gt := gt_in (List.mem_of_getElem? (i := 1056) (by decide +kernel)) (by decide +kernel)
theorem gw_1057 : Cond.code ⟨"BellTowerPlanner", "planStep", "(I)I"⟩ prog_1_method_22_code 2 (some .int) ∈ gt := gt_in (List.mem_of_getElem? (i := 1057) (by decide +kernel)) (by decide +kernel)
theorem gw_1066 : Cond.methodLink "BellTowerPlannerLaw" 77 ⟨"BellTowerPlanner", "startSwing", "(III)I"⟩ ∈ gt := gt_in (List.mem_of_getElem? (i := 1066) (by decide +kernel)) (by decide +kernel)
theorem gw_1067 : Cond.instanceMethod ⟨"BellTowerPlanner", "startSwing", "(III)I"⟩ ∈ gt := gt_in (List.mem_of_getElem? (i := 1067) (by decide +kernel)) (by decide +kernel)
theorem gw_1068 : Cond.selects "BellTowerPlanner" ⟨"BellTowerPlanner", "startSwing", "(III)I"⟩ ⟨"BellTowerPlanner", "startSwing", "(III)I"⟩ ∈ gt := gt_in (List.mem_of_getElem? (i := 1068) (by decide +kernel)) (by decide +kernel)
theorem gw_1069 : Cond.code ⟨"BellTowerPlanner", "startSwing", "(III)I"⟩ prog_1_method_23_code 4 (some .int) ∈ gt := gt_in (List.mem_of_getElem? (i := 1069) (by decide +kernel)) (by decide +kernel)
theorem gw_1081 : Cond.methodLink "BellTowerPlannerLaw" 80 ⟨"BellTowerPlanner", "stopSwing", "(I)I"⟩ ∈ gt := gt_in (List.mem_of_getElem? (i := 1081) (by decide +kernel)) (by decide +kernel)
theorem gw_1082 : Cond.instanceMethod ⟨"BellTowerPlanner", "stopSwing", "(I)I"⟩ ∈ gt := gt_in (List.mem_of_getElem? (i := 1082) (by decide +kernel)) (by decide +kernel)
theorem gw_1083 : Cond.selects "BellTowerPlanner" ⟨"BellTowerPlanner", "stopSwing", "(I)I"⟩ ⟨"BellTowerPlanner", "stopSwing", "(I)I"⟩ ∈ gt := gt_in (List.mem_of_getElem? (i := 1083) (by decide +kernel)) (by decide +kernel)
theorem gw_1084 : Cond.code ⟨"BellTowerPlanner", "stopSwing", "(I)I"⟩ prog_1_method_24_code 2 (some .int) ∈ gt := gt_in (List.mem_of_getElem? (i := 1084) (by decide +kernel)) (by decide +kernel)
theorem gw_1089 : Cond.methodLink "BellTowerPlannerLaw" 83 ⟨"BellTowerPlanner", "offset", "(II)I"⟩ ∈ gt := gt_in (List.mem_of_getElem? (i := 1089) (by decide +kernel)) (by decide +kernel)
theorem gw_1090 : Cond.instanceMethod ⟨"BellTowerPlanner", "offset", "(II)I"⟩ ∈ gt := gt_in (List.mem_of_getElem? (i := 1090) (by decide +kernel)) (by decide +kernel)
theorem gw_1091 : Cond.selects "BellTowerPlanner" ⟨"BellTowerPlanner", "offset", "(II)I"⟩ ⟨"BellTowerPlanner", "offset", "(II)I"⟩ ∈ gt := gt_in (List.mem_of_getElem? (i := 1091) (by decide +kernel)) (by decide +kernel)
theorem gw_1092 : Cond.code ⟨"BellTowerPlanner", "offset", "(II)I"⟩ prog_1_method_25_code 3 (some .int) ∈ gt := gt_in (List.mem_of_getElem? (i := 1092) (by decide +kernel)) (by decide +kernel)
theorem gw_1103 : Cond.methodLink "BellTowerPlannerLaw" 86 ⟨"BellTowerPlanner", "gap", "(III)I"⟩ ∈ gt := gt_in (List.mem_of_getElem? (i := 1103) (by decide +kernel)) (by decide +kernel)
theorem gw_1104 : Cond.instanceMethod ⟨"BellTowerPlanner", "gap", "(III)I"⟩ ∈ gt := gt_in (List.mem_of_getElem? (i := 1104) (by decide +kernel)) (by decide +kernel)
theorem gw_1105 : Cond.selects "BellTowerPlanner" ⟨"BellTowerPlanner", "gap", "(III)I"⟩ ⟨"BellTowerPlanner", "gap", "(III)I"⟩ ∈ gt := gt_in (List.mem_of_getElem? (i := 1105) (by decide +kernel)) (by decide +kernel)
theorem gw_1106 : Cond.code ⟨"BellTowerPlanner", "gap", "(III)I"⟩ prog_1_method_26_code 4 (some .int) ∈ gt := gt_in (List.mem_of_getElem? (i := 1106) (by decide +kernel)) (by decide +kernel)
theorem gw_1126 : Cond.methodLink "BellTowerPlannerLaw" 89 ⟨"BellTowerPlanner", "firstCollision", "()I"⟩ ∈ gt := gt_in (List.mem_of_getElem? (i := 1126) (by decide +kernel)) (by decide +kernel)
theorem gw_1127 : Cond.instanceMethod ⟨"BellTowerPlanner", "firstCollision", "()I"⟩ ∈ gt := gt_in (List.mem_of_getElem? (i := 1127) (by decide +kernel)) (by decide +kernel)
theorem gw_1128 : Cond.selects "BellTowerPlanner" ⟨"BellTowerPlanner", "firstCollision", "()I"⟩ ⟨"BellTowerPlanner", "firstCollision", "()I"⟩ ∈ gt := gt_in (List.mem_of_getElem? (i := 1128) (by decide +kernel)) (by decide +kernel)
theorem gw_1129 : Cond.code ⟨"BellTowerPlanner", "firstCollision", "()I"⟩ prog_1_method_27_code 2 (some .int) ∈ gt := gt_in (List.mem_of_getElem? (i := 1129) (by decide +kernel)) (by decide +kernel)
theorem gw_1142 : Cond.methodLink "BellTowerPlannerLaw" 92 ⟨"BellTowerPlanner", "collidingBells", "()I"⟩ ∈ gt := gt_in (List.mem_of_getElem? (i := 1142) (by decide +kernel)) (by decide +kernel)
theorem gw_1143 : Cond.instanceMethod ⟨"BellTowerPlanner", "collidingBells", "()I"⟩ ∈ gt := gt_in (List.mem_of_getElem? (i := 1143) (by decide +kernel)) (by decide +kernel)
theorem gw_1144 : Cond.selects "BellTowerPlanner" ⟨"BellTowerPlanner", "collidingBells", "()I"⟩ ⟨"BellTowerPlanner", "collidingBells", "()I"⟩ ∈ gt := gt_in (List.mem_of_getElem? (i := 1144) (by decide +kernel)) (by decide +kernel)
theorem gw_1145 : Cond.code ⟨"BellTowerPlanner", "collidingBells", "()I"⟩ prog_1_method_28_code 2 (some .int) ∈ gt := gt_in (List.mem_of_getElem? (i := 1145) (by decide +kernel)) (by decide +kernel)
theorem gw_1150 : Cond.methodLink "BellTowerPlannerLaw" 95 ⟨"BellTowerPlanner", "safeStart", "(II)I"⟩ ∈ gt := gt_in (List.mem_of_getElem? (i := 1150) (by decide +kernel)) (by decide +kernel)
theorem gw_1151 : Cond.instanceMethod ⟨"BellTowerPlanner", "safeStart", "(II)I"⟩ ∈ gt := gt_in (List.mem_of_getElem? (i := 1151) (by decide +kernel)) (by decide +kernel)
theorem gw_1152 : Cond.selects "BellTowerPlanner" ⟨"BellTowerPlanner", "safeStart", "(II)I"⟩ ⟨"BellTowerPlanner", "safeStart", "(II)I"⟩ ∈ gt := gt_in (List.mem_of_getElem? (i := 1152) (by decide +kernel)) (by decide +kernel)
theorem gw_1153 : Cond.code ⟨"BellTowerPlanner", "safeStart", "(II)I"⟩ prog_1_method_29_code 3 (some .int) ∈ gt := gt_in (List.mem_of_getElem? (i := 1153) (by decide +kernel)) (by decide +kernel)
theorem gw_1175 : Cond.methodLink "BellTowerPlannerLaw" 98 ⟨"BellTowerPlanner", "safeAmplitude", "(I)I"⟩ ∈ gt := gt_in (List.mem_of_getElem? (i := 1175) (by decide +kernel)) (by decide +kernel)
theorem gw_1176 : Cond.instanceMethod ⟨"BellTowerPlanner", "safeAmplitude", "(I)I"⟩ ∈ gt := gt_in (List.mem_of_getElem? (i := 1176) (by decide +kernel)) (by decide +kernel)
theorem gw_1177 : Cond.selects "BellTowerPlanner" ⟨"BellTowerPlanner", "safeAmplitude", "(I)I"⟩ ⟨"BellTowerPlanner", "safeAmplitude", "(I)I"⟩ ∈ gt := gt_in (List.mem_of_getElem? (i := 1177) (by decide +kernel)) (by decide +kernel)
theorem gw_1178 : Cond.code ⟨"BellTowerPlanner", "safeAmplitude", "(I)I"⟩ prog_1_method_30_code 2 (some .int) ∈ gt := gt_in (List.mem_of_getElem? (i := 1178) (by decide +kernel)) (by decide +kernel)
theorem gw_1186 : Cond.methodLink "BellTowerPlannerLaw" 101 ⟨"BellTowerPlanner", "strikes", "(III)I"⟩ ∈ gt := gt_in (List.mem_of_getElem? (i := 1186) (by decide +kernel)) (by decide +kernel)
theorem gw_1187 : Cond.instanceMethod ⟨"BellTowerPlanner", "strikes", "(III)I"⟩ ∈ gt := gt_in (List.mem_of_getElem? (i := 1187) (by decide +kernel)) (by decide +kernel)
theorem gw_1188 : Cond.selects "BellTowerPlanner" ⟨"BellTowerPlanner", "strikes", "(III)I"⟩ ⟨"BellTowerPlanner", "strikes", "(III)I"⟩ ∈ gt := gt_in (List.mem_of_getElem? (i := 1188) (by decide +kernel)) (by decide +kernel)
theorem gw_1189 : Cond.code ⟨"BellTowerPlanner", "strikes", "(III)I"⟩ prog_1_method_31_code 4 (some .int) ∈ gt := gt_in (List.mem_of_getElem? (i := 1189) (by decide +kernel)) (by decide +kernel)
theorem gw_1201 : Cond.methodLink "BellTowerPlannerLaw" 104 ⟨"BellTowerPlanner", "strikeTogether", "(II)I"⟩ ∈ gt := gt_in (List.mem_of_getElem? (i := 1201) (by decide +kernel)) (by decide +kernel)
theorem gw_1202 : Cond.instanceMethod ⟨"BellTowerPlanner", "strikeTogether", "(II)I"⟩ ∈ gt := gt_in (List.mem_of_getElem? (i := 1202) (by decide +kernel)) (by decide +kernel)
theorem gw_1203 : Cond.selects "BellTowerPlanner" ⟨"BellTowerPlanner", "strikeTogether", "(II)I"⟩ ⟨"BellTowerPlanner", "strikeTogether", "(II)I"⟩ ∈ gt := gt_in (List.mem_of_getElem? (i := 1203) (by decide +kernel)) (by decide +kernel)
theorem gw_1204 : Cond.code ⟨"BellTowerPlanner", "strikeTogether", "(II)I"⟩ prog_1_method_32_code 3 (some .int) ∈ gt := gt_in (List.mem_of_getElem? (i := 1204) (by decide +kernel)) (by decide +kernel)
theorem gw_1212 : Cond.methodLink "BellTowerPlannerLaw" 107 ⟨"BellTowerPlanner", "setChime", "(III)I"⟩ ∈ gt := gt_in (List.mem_of_getElem? (i := 1212) (by decide +kernel)) (by decide +kernel)
theorem gw_1213 : Cond.instanceMethod ⟨"BellTowerPlanner", "setChime", "(III)I"⟩ ∈ gt := gt_in (List.mem_of_getElem? (i := 1213) (by decide +kernel)) (by decide +kernel)
theorem gw_1214 : Cond.selects "BellTowerPlanner" ⟨"BellTowerPlanner", "setChime", "(III)I"⟩ ⟨"BellTowerPlanner", "setChime", "(III)I"⟩ ∈ gt := gt_in (List.mem_of_getElem? (i := 1214) (by decide +kernel)) (by decide +kernel)
theorem gw_1215 : Cond.code ⟨"BellTowerPlanner", "setChime", "(III)I"⟩ prog_1_method_33_code 4 (some .int) ∈ gt := gt_in (List.mem_of_getElem? (i := 1215) (by decide +kernel)) (by decide +kernel)
theorem gw_1219 : Cond.methodLink "BellTowerPlannerLaw" 110 ⟨"BellTowerPlanner", "clearChime", "(I)I"⟩ ∈ gt := gt_in (List.mem_of_getElem? (i := 1219) (by decide +kernel)) (by decide +kernel)
theorem gw_1220 : Cond.instanceMethod ⟨"BellTowerPlanner", "clearChime", "(I)I"⟩ ∈ gt := gt_in (List.mem_of_getElem? (i := 1220) (by decide +kernel)) (by decide +kernel)
theorem gw_1221 : Cond.selects "BellTowerPlanner" ⟨"BellTowerPlanner", "clearChime", "(I)I"⟩ ⟨"BellTowerPlanner", "clearChime", "(I)I"⟩ ∈ gt := gt_in (List.mem_of_getElem? (i := 1221) (by decide +kernel)) (by decide +kernel)
theorem gw_1222 : Cond.code ⟨"BellTowerPlanner", "clearChime", "(I)I"⟩ prog_1_method_34_code 2 (some .int) ∈ gt := gt_in (List.mem_of_getElem? (i := 1222) (by decide +kernel)) (by decide +kernel)
theorem gw_1235 : Cond.methodLink "BellTowerPlannerLaw" 113 ⟨"BellTowerPlanner", "isQuiet", "(I)Z"⟩ ∈ gt := gt_in (List.mem_of_getElem? (i := 1235) (by decide +kernel)) (by decide +kernel)
theorem gw_1236 : Cond.instanceMethod ⟨"BellTowerPlanner", "isQuiet", "(I)Z"⟩ ∈ gt := gt_in (List.mem_of_getElem? (i := 1236) (by decide +kernel)) (by decide +kernel)
theorem gw_1237 : Cond.selects "BellTowerPlanner" ⟨"BellTowerPlanner", "isQuiet", "(I)Z"⟩ ⟨"BellTowerPlanner", "isQuiet", "(I)Z"⟩ ∈ gt := gt_in (List.mem_of_getElem? (i := 1237) (by decide +kernel)) (by decide +kernel)
theorem gw_1238 : Cond.code ⟨"BellTowerPlanner", "isQuiet", "(I)Z"⟩ prog_1_method_35_code 2 (some .boolean) ∈ gt := gt_in (List.mem_of_getElem? (i := 1238) (by decide +kernel)) (by decide +kernel)
theorem gw_1242 : Cond.methodLink "BellTowerPlannerLaw" 117 ⟨"BellTowerPlanner", "quietMinutes", "()I"⟩ ∈ gt := gt_in (List.mem_of_getElem? (i := 1242) (by decide +kernel)) (by decide +kernel)
theorem gw_1243 : Cond.instanceMethod ⟨"BellTowerPlanner", "quietMinutes", "()I"⟩ ∈ gt := gt_in (List.mem_of_getElem? (i := 1243) (by decide +kernel)) (by decide +kernel)
theorem gw_1244 : Cond.selects "BellTowerPlanner" ⟨"BellTowerPlanner", "quietMinutes", "()I"⟩ ⟨"BellTowerPlanner", "quietMinutes", "()I"⟩ ∈ gt := gt_in (List.mem_of_getElem? (i := 1244) (by decide +kernel)) (by decide +kernel)
theorem gw_1245 : Cond.code ⟨"BellTowerPlanner", "quietMinutes", "()I"⟩ prog_1_method_36_code 1 (some .int) ∈ gt := gt_in (List.mem_of_getElem? (i := 1245) (by decide +kernel)) (by decide +kernel)
theorem gw_1253 : Cond.methodLink "BellTowerPlannerLaw" 120 ⟨"BellTowerPlanner", "longestLoud", "()I"⟩ ∈ gt := gt_in (List.mem_of_getElem? (i := 1253) (by decide +kernel)) (by decide +kernel)
theorem gw_1254 : Cond.instanceMethod ⟨"BellTowerPlanner", "longestLoud", "()I"⟩ ∈ gt := gt_in (List.mem_of_getElem? (i := 1254) (by decide +kernel)) (by decide +kernel)
theorem gw_1255 : Cond.selects "BellTowerPlanner" ⟨"BellTowerPlanner", "longestLoud", "()I"⟩ ⟨"BellTowerPlanner", "longestLoud", "()I"⟩ ∈ gt := gt_in (List.mem_of_getElem? (i := 1255) (by decide +kernel)) (by decide +kernel)
theorem gw_1256 : Cond.code ⟨"BellTowerPlanner", "longestLoud", "()I"⟩ prog_1_method_37_code 1 (some .int) ∈ gt := gt_in (List.mem_of_getElem? (i := 1256) (by decide +kernel)) (by decide +kernel)
theorem gw_1264 : Cond.methodLink "BellTowerPlannerLaw" 123 ⟨"BellTowerPlanner", "soundsAt", "(I)I"⟩ ∈ gt := gt_in (List.mem_of_getElem? (i := 1264) (by decide +kernel)) (by decide +kernel)
theorem gw_1265 : Cond.instanceMethod ⟨"BellTowerPlanner", "soundsAt", "(I)I"⟩ ∈ gt := gt_in (List.mem_of_getElem? (i := 1265) (by decide +kernel)) (by decide +kernel)
theorem gw_1266 : Cond.selects "BellTowerPlanner" ⟨"BellTowerPlanner", "soundsAt", "(I)I"⟩ ⟨"BellTowerPlanner", "soundsAt", "(I)I"⟩ ∈ gt := gt_in (List.mem_of_getElem? (i := 1266) (by decide +kernel)) (by decide +kernel)
theorem gw_1267 : Cond.code ⟨"BellTowerPlanner", "soundsAt", "(I)I"⟩ prog_1_method_38_code 2 (some .int) ∈ gt := gt_in (List.mem_of_getElem? (i := 1267) (by decide +kernel)) (by decide +kernel)
theorem gw_1285 : Cond.methodLink "BellTowerPlannerLaw" 126 ⟨"BellTowerPlanner", "soundsPerDay", "(I)I"⟩ ∈ gt := gt_in (List.mem_of_getElem? (i := 1285) (by decide +kernel)) (by decide +kernel)
theorem gw_1286 : Cond.instanceMethod ⟨"BellTowerPlanner", "soundsPerDay", "(I)I"⟩ ∈ gt := gt_in (List.mem_of_getElem? (i := 1286) (by decide +kernel)) (by decide +kernel)
theorem gw_1287 : Cond.selects "BellTowerPlanner" ⟨"BellTowerPlanner", "soundsPerDay", "(I)I"⟩ ⟨"BellTowerPlanner", "soundsPerDay", "(I)I"⟩ ∈ gt := gt_in (List.mem_of_getElem? (i := 1287) (by decide +kernel)) (by decide +kernel)
theorem gw_1288 : Cond.code ⟨"BellTowerPlanner", "soundsPerDay", "(I)I"⟩ prog_1_method_39_code 2 (some .int) ∈ gt := gt_in (List.mem_of_getElem? (i := 1288) (by decide +kernel)) (by decide +kernel)
theorem gw_1296 : Cond.methodLink "BellTowerPlannerLaw" 129 ⟨"BellTowerPlanner", "nextSound", "(I)I"⟩ ∈ gt := gt_in (List.mem_of_getElem? (i := 1296) (by decide +kernel)) (by decide +kernel)
theorem gw_1297 : Cond.instanceMethod ⟨"BellTowerPlanner", "nextSound", "(I)I"⟩ ∈ gt := gt_in (List.mem_of_getElem? (i := 1297) (by decide +kernel)) (by decide +kernel)
theorem gw_1298 : Cond.selects "BellTowerPlanner" ⟨"BellTowerPlanner", "nextSound", "(I)I"⟩ ⟨"BellTowerPlanner", "nextSound", "(I)I"⟩ ∈ gt := gt_in (List.mem_of_getElem? (i := 1298) (by decide +kernel)) (by decide +kernel)
theorem gw_1299 : Cond.code ⟨"BellTowerPlanner", "nextSound", "(I)I"⟩ prog_1_method_40_code 2 (some .int) ∈ gt := gt_in (List.mem_of_getElem? (i := 1299) (by decide +kernel)) (by decide +kernel)
theorem gw_1308 : Cond.methodLink "BellTowerPlannerLaw" 132 ⟨"BellTowerPlanner", "busiestMinute", "()I"⟩ ∈ gt := gt_in (List.mem_of_getElem? (i := 1308) (by decide +kernel)) (by decide +kernel)
theorem gw_1309 : Cond.instanceMethod ⟨"BellTowerPlanner", "busiestMinute", "()I"⟩ ∈ gt := gt_in (List.mem_of_getElem? (i := 1309) (by decide +kernel)) (by decide +kernel)
theorem gw_1310 : Cond.selects "BellTowerPlanner" ⟨"BellTowerPlanner", "busiestMinute", "()I"⟩ ⟨"BellTowerPlanner", "busiestMinute", "()I"⟩ ∈ gt := gt_in (List.mem_of_getElem? (i := 1310) (by decide +kernel)) (by decide +kernel)
theorem gw_1311 : Cond.code ⟨"BellTowerPlanner", "busiestMinute", "()I"⟩ prog_1_method_41_code 1 (some .int) ∈ gt := gt_in (List.mem_of_getElem? (i := 1311) (by decide +kernel)) (by decide +kernel)
theorem gw_1320 : Cond.methodLink "BellTowerPlannerLaw" 135 ⟨"BellTowerPlanner", "soundTogether", "(II)I"⟩ ∈ gt := gt_in (List.mem_of_getElem? (i := 1320) (by decide +kernel)) (by decide +kernel)
theorem gw_1321 : Cond.instanceMethod ⟨"BellTowerPlanner", "soundTogether", "(II)I"⟩ ∈ gt := gt_in (List.mem_of_getElem? (i := 1321) (by decide +kernel)) (by decide +kernel)
theorem gw_1322 : Cond.selects "BellTowerPlanner" ⟨"BellTowerPlanner", "soundTogether", "(II)I"⟩ ⟨"BellTowerPlanner", "soundTogether", "(II)I"⟩ ∈ gt := gt_in (List.mem_of_getElem? (i := 1322) (by decide +kernel)) (by decide +kernel)
theorem gw_1323 : Cond.code ⟨"BellTowerPlanner", "soundTogether", "(II)I"⟩ prog_1_method_42_code 3 (some .int) ∈ gt := gt_in (List.mem_of_getElem? (i := 1323) (by decide +kernel)) (by decide +kernel)
theorem gw_1327 : Cond.methodLink "BellTowerPlannerLaw" 138 ⟨"BellTowerPlanner", "leastDelay", "(I)I"⟩ ∈ gt := gt_in (List.mem_of_getElem? (i := 1327) (by decide +kernel)) (by decide +kernel)
theorem gw_1328 : Cond.instanceMethod ⟨"BellTowerPlanner", "leastDelay", "(I)I"⟩ ∈ gt := gt_in (List.mem_of_getElem? (i := 1328) (by decide +kernel)) (by decide +kernel)
theorem gw_1329 : Cond.selects "BellTowerPlanner" ⟨"BellTowerPlanner", "leastDelay", "(I)I"⟩ ⟨"BellTowerPlanner", "leastDelay", "(I)I"⟩ ∈ gt := gt_in (List.mem_of_getElem? (i := 1329) (by decide +kernel)) (by decide +kernel)
theorem gw_1330 : Cond.code ⟨"BellTowerPlanner", "leastDelay", "(I)I"⟩ prog_1_method_43_code 2 (some .int) ∈ gt := gt_in (List.mem_of_getElem? (i := 1330) (by decide +kernel)) (by decide +kernel)
theorem gw_1342 : Cond.methodLink "BellTowerPlannerLaw" 141 ⟨"BellTowerPlanner", "ropeLength", "(I)I"⟩ ∈ gt := gt_in (List.mem_of_getElem? (i := 1342) (by decide +kernel)) (by decide +kernel)
theorem gw_1343 : Cond.instanceMethod ⟨"BellTowerPlanner", "ropeLength", "(I)I"⟩ ∈ gt := gt_in (List.mem_of_getElem? (i := 1343) (by decide +kernel)) (by decide +kernel)
theorem gw_1344 : Cond.selects "BellTowerPlanner" ⟨"BellTowerPlanner", "ropeLength", "(I)I"⟩ ⟨"BellTowerPlanner", "ropeLength", "(I)I"⟩ ∈ gt := gt_in (List.mem_of_getElem? (i := 1344) (by decide +kernel)) (by decide +kernel)
theorem gw_1345 : Cond.code ⟨"BellTowerPlanner", "ropeLength", "(I)I"⟩ prog_1_method_44_code 2 (some .int) ∈ gt := gt_in (List.mem_of_getElem? (i := 1345) (by decide +kernel)) (by decide +kernel)
theorem gw_1354 : Cond.methodLink "BellTowerPlannerLaw" 144 ⟨"BellTowerPlanner", "fewestPieces", "()I"⟩ ∈ gt := gt_in (List.mem_of_getElem? (i := 1354) (by decide +kernel)) (by decide +kernel)
theorem gw_1355 : Cond.instanceMethod ⟨"BellTowerPlanner", "fewestPieces", "()I"⟩ ∈ gt := gt_in (List.mem_of_getElem? (i := 1355) (by decide +kernel)) (by decide +kernel)
theorem gw_1356 : Cond.selects "BellTowerPlanner" ⟨"BellTowerPlanner", "fewestPieces", "()I"⟩ ⟨"BellTowerPlanner", "fewestPieces", "()I"⟩ ∈ gt := gt_in (List.mem_of_getElem? (i := 1356) (by decide +kernel)) (by decide +kernel)
theorem gw_1357 : Cond.code ⟨"BellTowerPlanner", "fewestPieces", "()I"⟩ prog_1_method_45_code 1 (some .int) ∈ gt := gt_in (List.mem_of_getElem? (i := 1357) (by decide +kernel)) (by decide +kernel)
theorem gw_1385 : Cond.methodLink "BellTowerPlannerLaw" 147 ⟨"BellTowerPlanner", "pieceOf", "(I)I"⟩ ∈ gt := gt_in (List.mem_of_getElem? (i := 1385) (by decide +kernel)) (by decide +kernel)
theorem gw_1386 : Cond.instanceMethod ⟨"BellTowerPlanner", "pieceOf", "(I)I"⟩ ∈ gt := gt_in (List.mem_of_getElem? (i := 1386) (by decide +kernel)) (by decide +kernel)
theorem gw_1387 : Cond.selects "BellTowerPlanner" ⟨"BellTowerPlanner", "pieceOf", "(I)I"⟩ ⟨"BellTowerPlanner", "pieceOf", "(I)I"⟩ ∈ gt := gt_in (List.mem_of_getElem? (i := 1387) (by decide +kernel)) (by decide +kernel)
theorem gw_1388 : Cond.code ⟨"BellTowerPlanner", "pieceOf", "(I)I"⟩ prog_1_method_46_code 2 (some .int) ∈ gt := gt_in (List.mem_of_getElem? (i := 1388) (by decide +kernel)) (by decide +kernel)
theorem gw_1396 : Cond.methodLink "BellTowerPlannerLaw" 150 ⟨"BellTowerPlanner", "waste", "()I"⟩ ∈ gt := gt_in (List.mem_of_getElem? (i := 1396) (by decide +kernel)) (by decide +kernel)
theorem gw_1397 : Cond.instanceMethod ⟨"BellTowerPlanner", "waste", "()I"⟩ ∈ gt := gt_in (List.mem_of_getElem? (i := 1397) (by decide +kernel)) (by decide +kernel)
theorem gw_1398 : Cond.selects "BellTowerPlanner" ⟨"BellTowerPlanner", "waste", "()I"⟩ ⟨"BellTowerPlanner", "waste", "()I"⟩ ∈ gt := gt_in (List.mem_of_getElem? (i := 1398) (by decide +kernel)) (by decide +kernel)
theorem gw_1399 : Cond.code ⟨"BellTowerPlanner", "waste", "()I"⟩ prog_1_method_47_code 1 (some .int) ∈ gt := gt_in (List.mem_of_getElem? (i := 1399) (by decide +kernel)) (by decide +kernel)
theorem gw_1408 : Cond.methodLink "BellTowerPlannerLaw" 153 ⟨"BellTowerPlanner", "extraPiece", "()I"⟩ ∈ gt := gt_in (List.mem_of_getElem? (i := 1408) (by decide +kernel)) (by decide +kernel)
theorem gw_1409 : Cond.instanceMethod ⟨"BellTowerPlanner", "extraPiece", "()I"⟩ ∈ gt := gt_in (List.mem_of_getElem? (i := 1409) (by decide +kernel)) (by decide +kernel)
theorem gw_1410 : Cond.selects "BellTowerPlanner" ⟨"BellTowerPlanner", "extraPiece", "()I"⟩ ⟨"BellTowerPlanner", "extraPiece", "()I"⟩ ∈ gt := gt_in (List.mem_of_getElem? (i := 1410) (by decide +kernel)) (by decide +kernel)
theorem gw_1411 : Cond.code ⟨"BellTowerPlanner", "extraPiece", "()I"⟩ prog_1_method_48_code 1 (some .int) ∈ gt := gt_in (List.mem_of_getElem? (i := 1411) (by decide +kernel)) (by decide +kernel)
theorem gw_1419 : Cond.methodLink "BellTowerPlannerLaw" 156 ⟨"BellTowerPlanner", "undo", "()I"⟩ ∈ gt := gt_in (List.mem_of_getElem? (i := 1419) (by decide +kernel)) (by decide +kernel)
theorem gw_1420 : Cond.instanceMethod ⟨"BellTowerPlanner", "undo", "()I"⟩ ∈ gt := gt_in (List.mem_of_getElem? (i := 1420) (by decide +kernel)) (by decide +kernel)
theorem gw_1421 : Cond.selects "BellTowerPlanner" ⟨"BellTowerPlanner", "undo", "()I"⟩ ⟨"BellTowerPlanner", "undo", "()I"⟩ ∈ gt := gt_in (List.mem_of_getElem? (i := 1421) (by decide +kernel)) (by decide +kernel)
theorem gw_1422 : Cond.code ⟨"BellTowerPlanner", "undo", "()I"⟩ prog_1_method_49_code 1 (some .int) ∈ gt := gt_in (List.mem_of_getElem? (i := 1422) (by decide +kernel)) (by decide +kernel)
theorem cal_X9_append : Cal M_X9_append := ⟨rfl, gw_627, gw_108, ⟨by decide, by decide⟩⟩
theorem cai_X9_append : Cond.instanceMethod (mY M_X9_append) ∈ gt ∧ Cond.selects (mY M_X9_append).cls (mY M_X9_append) (mY M_X9_append) ∈ gt := ⟨gw_625, gw_626⟩
theorem cnt_X9_append : Cnt M_X9_append 5 := by unfold Cnt; decide +kernel
theorem cal_X9_beamOf : Cal M_X9_beamOf := ⟨rfl, gw_815, gw_108, ⟨by decide, by decide⟩⟩
theorem cai_X9_beamOf : Cond.instanceMethod (mY M_X9_beamOf) ∈ gt ∧ Cond.selects (mY M_X9_beamOf).cls (mY M_X9_beamOf) (mY M_X9_beamOf) ∈ gt := ⟨gw_813, gw_814⟩
theorem cnt_X9_beamOf : Cnt M_X9_beamOf 1 := by unfold Cnt; decide +kernel
theorem cal_X9_bellAt : Cal M_X9_bellAt := ⟨rfl, gw_857, gw_108, ⟨by decide, by decide⟩⟩
theorem cai_X9_bellAt : Cond.instanceMethod (mY M_X9_bellAt) ∈ gt ∧ Cond.selects (mY M_X9_bellAt).cls (mY M_X9_bellAt) (mY M_X9_bellAt) ∈ gt := ⟨gw_855, gw_856⟩
theorem cnt_X9_bellAt : Cnt M_X9_bellAt 2 := by unfold Cnt; decide +kernel
theorem cal_X9_bestPosition : Cal M_X9_bestPosition := ⟨rfl, gw_890, gw_108, ⟨by decide, by decide⟩⟩
theorem cai_X9_bestPosition : Cond.instanceMethod (mY M_X9_bestPosition) ∈ gt ∧ Cond.selects (mY M_X9_bestPosition).cls (mY M_X9_bestPosition) (mY M_X9_bestPosition) ∈ gt := ⟨gw_888, gw_889⟩
theorem cnt_X9_bestPosition : Cnt M_X9_bestPosition 2 := by unfold Cnt; decide +kernel
theorem cal_X9_busiestMinute : Cal M_X9_busiestMinute := ⟨rfl, gw_1311, gw_108, ⟨by decide, by decide⟩⟩
theorem cai_X9_busiestMinute : Cond.instanceMethod (mY M_X9_busiestMinute) ∈ gt ∧ Cond.selects (mY M_X9_busiestMinute).cls (mY M_X9_busiestMinute) (mY M_X9_busiestMinute) ∈ gt := ⟨gw_1309, gw_1310⟩
theorem cnt_X9_busiestMinute : Cnt M_X9_busiestMinute 0 := by unfold Cnt; decide +kernel
theorem cal_X9_clearChime : Cal M_X9_clearChime := ⟨rfl, gw_1222, gw_108, ⟨by decide, by decide⟩⟩
theorem cai_X9_clearChime : Cond.instanceMethod (mY M_X9_clearChime) ∈ gt ∧ Cond.selects (mY M_X9_clearChime).cls (mY M_X9_clearChime) (mY M_X9_clearChime) ∈ gt := ⟨gw_1220, gw_1221⟩
theorem cnt_X9_clearChime : Cnt M_X9_clearChime 1 := by unfold Cnt; decide +kernel
theorem cal_X9_clearPlan : Cal M_X9_clearPlan := ⟨rfl, gw_960, gw_108, ⟨by decide, by decide⟩⟩
theorem cai_X9_clearPlan : Cond.instanceMethod (mY M_X9_clearPlan) ∈ gt ∧ Cond.selects (mY M_X9_clearPlan).cls (mY M_X9_clearPlan) (mY M_X9_clearPlan) ∈ gt := ⟨gw_958, gw_959⟩
theorem cnt_X9_clearPlan : Cnt M_X9_clearPlan 1 := by unfold Cnt; decide +kernel
theorem cal_X9_collidingBells : Cal M_X9_collidingBells := ⟨rfl, gw_1145, gw_108, ⟨by decide, by decide⟩⟩
theorem cai_X9_collidingBells : Cond.instanceMethod (mY M_X9_collidingBells) ∈ gt ∧ Cond.selects (mY M_X9_collidingBells).cls (mY M_X9_collidingBells) (mY M_X9_collidingBells) ∈ gt := ⟨gw_1143, gw_1144⟩
theorem cnt_X9_collidingBells : Cnt M_X9_collidingBells 0 := by unfold Cnt; decide +kernel
theorem cal_X9_extraPiece : Cal M_X9_extraPiece := ⟨rfl, gw_1411, gw_108, ⟨by decide, by decide⟩⟩
theorem cai_X9_extraPiece : Cond.instanceMethod (mY M_X9_extraPiece) ∈ gt ∧ Cond.selects (mY M_X9_extraPiece).cls (mY M_X9_extraPiece) (mY M_X9_extraPiece) ∈ gt := ⟨gw_1409, gw_1410⟩
theorem cnt_X9_extraPiece : Cnt M_X9_extraPiece 0 := by unfold Cnt; decide +kernel
theorem cal_X9_fewestPieces : Cal M_X9_fewestPieces := ⟨rfl, gw_1357, gw_108, ⟨by decide, by decide⟩⟩
theorem cai_X9_fewestPieces : Cond.instanceMethod (mY M_X9_fewestPieces) ∈ gt ∧ Cond.selects (mY M_X9_fewestPieces).cls (mY M_X9_fewestPieces) (mY M_X9_fewestPieces) ∈ gt := ⟨gw_1355, gw_1356⟩
theorem cnt_X9_fewestPieces : Cnt M_X9_fewestPieces 0 := by unfold Cnt; decide +kernel
theorem cal_X9_firstCollision : Cal M_X9_firstCollision := ⟨rfl, gw_1129, gw_108, ⟨by decide, by decide⟩⟩
theorem cai_X9_firstCollision : Cond.instanceMethod (mY M_X9_firstCollision) ∈ gt ∧ Cond.selects (mY M_X9_firstCollision).cls (mY M_X9_firstCollision) (mY M_X9_firstCollision) ∈ gt := ⟨gw_1127, gw_1128⟩
theorem cnt_X9_firstCollision : Cnt M_X9_firstCollision 0 := by unfold Cnt; decide +kernel
theorem cal_X9_freePositions : Cal M_X9_freePositions := ⟨rfl, gw_878, gw_108, ⟨by decide, by decide⟩⟩
theorem cai_X9_freePositions : Cond.instanceMethod (mY M_X9_freePositions) ∈ gt ∧ Cond.selects (mY M_X9_freePositions).cls (mY M_X9_freePositions) (mY M_X9_freePositions) ∈ gt := ⟨gw_876, gw_877⟩
theorem cnt_X9_freePositions : Cnt M_X9_freePositions 2 := by unfold Cnt; decide +kernel
theorem cal_X9_gap : Cal M_X9_gap := ⟨rfl, gw_1106, gw_108, ⟨by decide, by decide⟩⟩
theorem cai_X9_gap : Cond.instanceMethod (mY M_X9_gap) ∈ gt ∧ Cond.selects (mY M_X9_gap).cls (mY M_X9_gap) (mY M_X9_gap) ∈ gt := ⟨gw_1104, gw_1105⟩
theorem cnt_X9_gap : Cnt M_X9_gap 3 := by unfold Cnt; decide +kernel
theorem cal_X9_hang : Cal M_X9_hang := ⟨rfl, gw_732, gw_108, ⟨by decide, by decide⟩⟩
theorem cai_X9_hang : Cond.instanceMethod (mY M_X9_hang) ∈ gt ∧ Cond.selects (mY M_X9_hang).cls (mY M_X9_hang) (mY M_X9_hang) ∈ gt := ⟨gw_730, gw_731⟩
theorem cnt_X9_hang : Cnt M_X9_hang 3 := by unfold Cnt; decide +kernel
theorem cal_X9_isQuiet : Cal M_X9_isQuiet := ⟨rfl, gw_1238, gw_108, ⟨by decide, by decide⟩⟩
theorem cai_X9_isQuiet : Cond.instanceMethod (mY M_X9_isQuiet) ∈ gt ∧ Cond.selects (mY M_X9_isQuiet).cls (mY M_X9_isQuiet) (mY M_X9_isQuiet) ∈ gt := ⟨gw_1236, gw_1237⟩
theorem cnt_X9_isQuiet : Cnt M_X9_isQuiet 1 := by unfold Cnt; decide +kernel
theorem cal_X9_leastDelay : Cal M_X9_leastDelay := ⟨rfl, gw_1330, gw_108, ⟨by decide, by decide⟩⟩
theorem cai_X9_leastDelay : Cond.instanceMethod (mY M_X9_leastDelay) ∈ gt ∧ Cond.selects (mY M_X9_leastDelay).cls (mY M_X9_leastDelay) (mY M_X9_leastDelay) ∈ gt := ⟨gw_1328, gw_1329⟩
theorem cnt_X9_leastDelay : Cnt M_X9_leastDelay 1 := by unfold Cnt; decide +kernel
theorem cal_X9_longestLoud : Cal M_X9_longestLoud := ⟨rfl, gw_1256, gw_108, ⟨by decide, by decide⟩⟩
theorem cai_X9_longestLoud : Cond.instanceMethod (mY M_X9_longestLoud) ∈ gt ∧ Cond.selects (mY M_X9_longestLoud).cls (mY M_X9_longestLoud) (mY M_X9_longestLoud) ∈ gt := ⟨gw_1254, gw_1255⟩
theorem cnt_X9_longestLoud : Cnt M_X9_longestLoud 0 := by unfold Cnt; decide +kernel
theorem cal_X9_mirroredBells : Cal M_X9_mirroredBells := ⟨rfl, gw_938, gw_108, ⟨by decide, by decide⟩⟩
theorem cai_X9_mirroredBells : Cond.instanceMethod (mY M_X9_mirroredBells) ∈ gt ∧ Cond.selects (mY M_X9_mirroredBells).cls (mY M_X9_mirroredBells) (mY M_X9_mirroredBells) ∈ gt := ⟨gw_936, gw_937⟩
theorem cnt_X9_mirroredBells : Cnt M_X9_mirroredBells 1 := by unfold Cnt; decide +kernel
theorem cal_X9_mirroredTorque : Cal M_X9_mirroredTorque := ⟨rfl, gw_903, gw_108, ⟨by decide, by decide⟩⟩
theorem cai_X9_mirroredTorque : Cond.instanceMethod (mY M_X9_mirroredTorque) ∈ gt ∧ Cond.selects (mY M_X9_mirroredTorque).cls (mY M_X9_mirroredTorque) (mY M_X9_mirroredTorque) ∈ gt := ⟨gw_901, gw_902⟩
theorem cnt_X9_mirroredTorque : Cnt M_X9_mirroredTorque 1 := by unfold Cnt; decide +kernel
theorem cal_X9_nextSound : Cal M_X9_nextSound := ⟨rfl, gw_1299, gw_108, ⟨by decide, by decide⟩⟩
theorem cai_X9_nextSound : Cond.instanceMethod (mY M_X9_nextSound) ∈ gt ∧ Cond.selects (mY M_X9_nextSound).cls (mY M_X9_nextSound) (mY M_X9_nextSound) ∈ gt := ⟨gw_1297, gw_1298⟩
theorem cnt_X9_nextSound : Cnt M_X9_nextSound 1 := by unfold Cnt; decide +kernel
theorem cal_X9_offset : Cal M_X9_offset := ⟨rfl, gw_1092, gw_108, ⟨by decide, by decide⟩⟩
theorem cai_X9_offset : Cond.instanceMethod (mY M_X9_offset) ∈ gt ∧ Cond.selects (mY M_X9_offset).cls (mY M_X9_offset) (mY M_X9_offset) ∈ gt := ⟨gw_1090, gw_1091⟩
theorem cnt_X9_offset : Cnt M_X9_offset 2 := by unfold Cnt; decide +kernel
theorem cal_X9_pieceOf : Cal M_X9_pieceOf := ⟨rfl, gw_1388, gw_108, ⟨by decide, by decide⟩⟩
theorem cai_X9_pieceOf : Cond.instanceMethod (mY M_X9_pieceOf) ∈ gt ∧ Cond.selects (mY M_X9_pieceOf).cls (mY M_X9_pieceOf) (mY M_X9_pieceOf) ∈ gt := ⟨gw_1386, gw_1387⟩
theorem cnt_X9_pieceOf : Cnt M_X9_pieceOf 1 := by unfold Cnt; decide +kernel
theorem cal_X9_planConflicts : Cal M_X9_planConflicts := ⟨rfl, gw_968, gw_108, ⟨by decide, by decide⟩⟩
theorem cai_X9_planConflicts : Cond.instanceMethod (mY M_X9_planConflicts) ∈ gt ∧ Cond.selects (mY M_X9_planConflicts).cls (mY M_X9_planConflicts) (mY M_X9_planConflicts) ∈ gt := ⟨gw_966, gw_967⟩
theorem cnt_X9_planConflicts : Cnt M_X9_planConflicts 0 := by unfold Cnt; decide +kernel
theorem cal_X9_planStep : Cal M_X9_planStep := ⟨rfl, gw_1057, gw_108, ⟨by decide, by decide⟩⟩
theorem cai_X9_planStep : Cond.instanceMethod (mY M_X9_planStep) ∈ gt ∧ Cond.selects (mY M_X9_planStep).cls (mY M_X9_planStep) (mY M_X9_planStep) ∈ gt := ⟨gw_1055, gw_1056⟩
theorem cnt_X9_planStep : Cnt M_X9_planStep 1 := by unfold Cnt; decide +kernel
theorem cal_X9_planUnbalanced : Cal M_X9_planUnbalanced := ⟨rfl, gw_1006, gw_108, ⟨by decide, by decide⟩⟩
theorem cai_X9_planUnbalanced : Cond.instanceMethod (mY M_X9_planUnbalanced) ∈ gt ∧ Cond.selects (mY M_X9_planUnbalanced).cls (mY M_X9_planUnbalanced) (mY M_X9_planUnbalanced) ∈ gt := ⟨gw_1004, gw_1005⟩
theorem cnt_X9_planUnbalanced : Cnt M_X9_planUnbalanced 0 := by unfold Cnt; decide +kernel
theorem cal_X9_positionOf : Cal M_X9_positionOf := ⟨rfl, gw_823, gw_108, ⟨by decide, by decide⟩⟩
theorem cai_X9_positionOf : Cond.instanceMethod (mY M_X9_positionOf) ∈ gt ∧ Cond.selects (mY M_X9_positionOf).cls (mY M_X9_positionOf) (mY M_X9_positionOf) ∈ gt := ⟨gw_821, gw_822⟩
theorem cnt_X9_positionOf : Cnt M_X9_positionOf 1 := by unfold Cnt; decide +kernel
theorem cal_X9_quietMinutes : Cal M_X9_quietMinutes := ⟨rfl, gw_1245, gw_108, ⟨by decide, by decide⟩⟩
theorem cai_X9_quietMinutes : Cond.instanceMethod (mY M_X9_quietMinutes) ∈ gt ∧ Cond.selects (mY M_X9_quietMinutes).cls (mY M_X9_quietMinutes) (mY M_X9_quietMinutes) ∈ gt := ⟨gw_1243, gw_1244⟩
theorem cnt_X9_quietMinutes : Cnt M_X9_quietMinutes 0 := by unfold Cnt; decide +kernel
theorem cal_X9_ropeLength : Cal M_X9_ropeLength := ⟨rfl, gw_1345, gw_108, ⟨by decide, by decide⟩⟩
theorem cai_X9_ropeLength : Cond.instanceMethod (mY M_X9_ropeLength) ∈ gt ∧ Cond.selects (mY M_X9_ropeLength).cls (mY M_X9_ropeLength) (mY M_X9_ropeLength) ∈ gt := ⟨gw_1343, gw_1344⟩
theorem cnt_X9_ropeLength : Cnt M_X9_ropeLength 1 := by unfold Cnt; decide +kernel
theorem cal_X9_safeAmplitude : Cal M_X9_safeAmplitude := ⟨rfl, gw_1178, gw_108, ⟨by decide, by decide⟩⟩
theorem cai_X9_safeAmplitude : Cond.instanceMethod (mY M_X9_safeAmplitude) ∈ gt ∧ Cond.selects (mY M_X9_safeAmplitude).cls (mY M_X9_safeAmplitude) (mY M_X9_safeAmplitude) ∈ gt := ⟨gw_1176, gw_1177⟩
theorem cnt_X9_safeAmplitude : Cnt M_X9_safeAmplitude 1 := by unfold Cnt; decide +kernel
theorem cal_X9_safeStart : Cal M_X9_safeStart := ⟨rfl, gw_1153, gw_108, ⟨by decide, by decide⟩⟩
theorem cai_X9_safeStart : Cond.instanceMethod (mY M_X9_safeStart) ∈ gt ∧ Cond.selects (mY M_X9_safeStart).cls (mY M_X9_safeStart) (mY M_X9_safeStart) ∈ gt := ⟨gw_1151, gw_1152⟩
theorem cnt_X9_safeStart : Cnt M_X9_safeStart 2 := by unfold Cnt; decide +kernel
theorem cal_X9_setChime : Cal M_X9_setChime := ⟨rfl, gw_1215, gw_108, ⟨by decide, by decide⟩⟩
theorem cai_X9_setChime : Cond.instanceMethod (mY M_X9_setChime) ∈ gt ∧ Cond.selects (mY M_X9_setChime).cls (mY M_X9_setChime) (mY M_X9_setChime) ∈ gt := ⟨gw_1213, gw_1214⟩
theorem cnt_X9_setChime : Cnt M_X9_setChime 3 := by unfold Cnt; decide +kernel
theorem cal_X9_setPlan : Cal M_X9_setPlan := ⟨rfl, gw_945, gw_108, ⟨by decide, by decide⟩⟩
theorem cai_X9_setPlan : Cond.instanceMethod (mY M_X9_setPlan) ∈ gt ∧ Cond.selects (mY M_X9_setPlan).cls (mY M_X9_setPlan) (mY M_X9_setPlan) ∈ gt := ⟨gw_943, gw_944⟩
theorem cnt_X9_setPlan : Cnt M_X9_setPlan 3 := by unfold Cnt; decide +kernel
theorem cal_X9_shift : Cal M_X9_shift := ⟨rfl, gw_808, gw_108, ⟨by decide, by decide⟩⟩
theorem cai_X9_shift : Cond.instanceMethod (mY M_X9_shift) ∈ gt ∧ Cond.selects (mY M_X9_shift).cls (mY M_X9_shift) (mY M_X9_shift) ∈ gt := ⟨gw_806, gw_807⟩
theorem cnt_X9_shift : Cnt M_X9_shift 2 := by unfold Cnt; decide +kernel
theorem cal_X9_soundTogether : Cal M_X9_soundTogether := ⟨rfl, gw_1323, gw_108, ⟨by decide, by decide⟩⟩
theorem cai_X9_soundTogether : Cond.instanceMethod (mY M_X9_soundTogether) ∈ gt ∧ Cond.selects (mY M_X9_soundTogether).cls (mY M_X9_soundTogether) (mY M_X9_soundTogether) ∈ gt := ⟨gw_1321, gw_1322⟩
theorem cnt_X9_soundTogether : Cnt M_X9_soundTogether 2 := by unfold Cnt; decide +kernel
theorem cal_X9_soundsAt : Cal M_X9_soundsAt := ⟨rfl, gw_1267, gw_108, ⟨by decide, by decide⟩⟩
theorem cai_X9_soundsAt : Cond.instanceMethod (mY M_X9_soundsAt) ∈ gt ∧ Cond.selects (mY M_X9_soundsAt).cls (mY M_X9_soundsAt) (mY M_X9_soundsAt) ∈ gt := ⟨gw_1265, gw_1266⟩
theorem cnt_X9_soundsAt : Cnt M_X9_soundsAt 1 := by unfold Cnt; decide +kernel
theorem cal_X9_soundsPerDay : Cal M_X9_soundsPerDay := ⟨rfl, gw_1288, gw_108, ⟨by decide, by decide⟩⟩
theorem cai_X9_soundsPerDay : Cond.instanceMethod (mY M_X9_soundsPerDay) ∈ gt ∧ Cond.selects (mY M_X9_soundsPerDay).cls (mY M_X9_soundsPerDay) (mY M_X9_soundsPerDay) ∈ gt := ⟨gw_1286, gw_1287⟩
theorem cnt_X9_soundsPerDay : Cnt M_X9_soundsPerDay 1 := by unfold Cnt; decide +kernel
theorem cal_X9_startSwing : Cal M_X9_startSwing := ⟨rfl, gw_1069, gw_108, ⟨by decide, by decide⟩⟩
theorem cai_X9_startSwing : Cond.instanceMethod (mY M_X9_startSwing) ∈ gt ∧ Cond.selects (mY M_X9_startSwing).cls (mY M_X9_startSwing) (mY M_X9_startSwing) ∈ gt := ⟨gw_1067, gw_1068⟩
theorem cnt_X9_startSwing : Cnt M_X9_startSwing 3 := by unfold Cnt; decide +kernel
theorem cal_X9_stepsToPlan : Cal M_X9_stepsToPlan := ⟨rfl, gw_1022, gw_108, ⟨by decide, by decide⟩⟩
theorem cai_X9_stepsToPlan : Cond.instanceMethod (mY M_X9_stepsToPlan) ∈ gt ∧ Cond.selects (mY M_X9_stepsToPlan).cls (mY M_X9_stepsToPlan) (mY M_X9_stepsToPlan) ∈ gt := ⟨gw_1020, gw_1021⟩
theorem cnt_X9_stepsToPlan : Cnt M_X9_stepsToPlan 0 := by unfold Cnt; decide +kernel
theorem cal_X9_stopSwing : Cal M_X9_stopSwing := ⟨rfl, gw_1084, gw_108, ⟨by decide, by decide⟩⟩
theorem cai_X9_stopSwing : Cond.instanceMethod (mY M_X9_stopSwing) ∈ gt ∧ Cond.selects (mY M_X9_stopSwing).cls (mY M_X9_stopSwing) (mY M_X9_stopSwing) ∈ gt := ⟨gw_1082, gw_1083⟩
theorem cnt_X9_stopSwing : Cnt M_X9_stopSwing 1 := by unfold Cnt; decide +kernel
theorem cal_X9_strikeTogether : Cal M_X9_strikeTogether := ⟨rfl, gw_1204, gw_108, ⟨by decide, by decide⟩⟩
theorem cai_X9_strikeTogether : Cond.instanceMethod (mY M_X9_strikeTogether) ∈ gt ∧ Cond.selects (mY M_X9_strikeTogether).cls (mY M_X9_strikeTogether) (mY M_X9_strikeTogether) ∈ gt := ⟨gw_1202, gw_1203⟩
theorem cnt_X9_strikeTogether : Cnt M_X9_strikeTogether 2 := by unfold Cnt; decide +kernel
theorem cal_X9_strikes : Cal M_X9_strikes := ⟨rfl, gw_1189, gw_108, ⟨by decide, by decide⟩⟩
theorem cai_X9_strikes : Cond.instanceMethod (mY M_X9_strikes) ∈ gt ∧ Cond.selects (mY M_X9_strikes).cls (mY M_X9_strikes) (mY M_X9_strikes) ∈ gt := ⟨gw_1187, gw_1188⟩
theorem cnt_X9_strikes : Cnt M_X9_strikes 3 := by unfold Cnt; decide +kernel
theorem cal_X9_takeDown : Cal M_X9_takeDown := ⟨rfl, gw_799, gw_108, ⟨by decide, by decide⟩⟩
theorem cai_X9_takeDown : Cond.instanceMethod (mY M_X9_takeDown) ∈ gt ∧ Cond.selects (mY M_X9_takeDown).cls (mY M_X9_takeDown) (mY M_X9_takeDown) ∈ gt := ⟨gw_797, gw_798⟩
theorem cnt_X9_takeDown : Cnt M_X9_takeDown 1 := by unfold Cnt; decide +kernel
theorem cal_X9_torque : Cal M_X9_torque := ⟨rfl, gw_850, gw_108, ⟨by decide, by decide⟩⟩
theorem cai_X9_torque : Cond.instanceMethod (mY M_X9_torque) ∈ gt ∧ Cond.selects (mY M_X9_torque).cls (mY M_X9_torque) (mY M_X9_torque) ∈ gt := ⟨gw_848, gw_849⟩
theorem cnt_X9_torque : Cnt M_X9_torque 1 := by unfold Cnt; decide +kernel
theorem cal_X9_truncate : Cal M_X9_truncate := ⟨rfl, gw_706, gw_108, ⟨by decide, by decide⟩⟩
theorem cai_X9_truncate : Cond.instanceMethod (mY M_X9_truncate) ∈ gt ∧ Cond.selects (mY M_X9_truncate).cls (mY M_X9_truncate) (mY M_X9_truncate) ∈ gt := ⟨gw_704, gw_705⟩
theorem cnt_X9_truncate : Cnt M_X9_truncate 1 := by unfold Cnt; decide +kernel
theorem cal_X9_undo : Cal M_X9_undo := ⟨rfl, gw_1422, gw_108, ⟨by decide, by decide⟩⟩
theorem cai_X9_undo : Cond.instanceMethod (mY M_X9_undo) ∈ gt ∧ Cond.selects (mY M_X9_undo).cls (mY M_X9_undo) (mY M_X9_undo) ∈ gt := ⟨gw_1420, gw_1421⟩
theorem cnt_X9_undo : Cnt M_X9_undo 0 := by unfold Cnt; decide +kernel
theorem cal_X9_waste : Cal M_X9_waste := ⟨rfl, gw_1399, gw_108, ⟨by decide, by decide⟩⟩
theorem cai_X9_waste : Cond.instanceMethod (mY M_X9_waste) ∈ gt ∧ Cond.selects (mY M_X9_waste).cls (mY M_X9_waste) (mY M_X9_waste) ∈ gt := ⟨gw_1397, gw_1398⟩
theorem cnt_X9_waste : Cnt M_X9_waste 0 := by unfold Cnt; decide +kernel
theorem dL_append_0 : decode cL_append 0 = .ok (.aload 6, 2) := by decide +kernel
theorem dL_append_2 : decode cL_append 2 = .ok (.iconst 0, 1) := by decide +kernel
theorem dL_append_3 : decode cL_append 3 = .ok (.aload_n 0, 1) := by decide +kernel
theorem dL_append_4 : decode cL_append 4 = .ok (.iload_n 1, 1) := by decide +kernel
theorem dL_append_5 : decode cL_append 5 = .ok (.iload_n 2, 1) := by decide +kernel
theorem dL_append_6 : decode cL_append 6 = .ok (.iload_n 3, 1) := by decide +kernel
theorem dL_append_7 : decode cL_append 7 = .ok (.iload 4, 2) := by decide +kernel
theorem dL_append_9 : decode cL_append 9 = .ok (.iload 5, 2) := by decide +kernel
theorem dL_append_11 : decode cL_append 11 = .ok (.invokevirtual 7, 3) := by decide +kernel
theorem dL_append_14 : decode cL_append 14 = .ok (.i2l, 1) := by decide +kernel
theorem dL_append_15 : decode cL_append 15 = .ok (.lastore, 1) := by decide +kernel
theorem dL_append_16 : decode cL_append 16 = .ok (.goto 7, 3) := by decide +kernel
theorem dL_append_23 : decode cL_append 23 = .ok (.iconst 0, 1) := by decide +kernel
theorem dL_append_24 : decode cL_append 24 = .ok (.ireturn, 1) := by decide +kernel
theorem dL_append_19 : decode cL_append 19 = .ok (.astore 7, 2) := by decide +kernel
theorem dL_append_21 : decode cL_append 21 = .ok (.iconst 1, 1) := by decide +kernel
theorem dL_append_22 : decode cL_append 22 = .ok (.ireturn, 1) := by decide +kernel
theorem dL_truncate_0 : decode cL_truncate 0 = .ok (.aload_n 2, 1) := by decide +kernel
theorem dL_truncate_1 : decode cL_truncate 1 = .ok (.iconst 0, 1) := by decide +kernel
theorem dL_truncate_2 : decode cL_truncate 2 = .ok (.aload_n 0, 1) := by decide +kernel
theorem dL_truncate_3 : decode cL_truncate 3 = .ok (.iload_n 1, 1) := by decide +kernel
theorem dL_truncate_4 : decode cL_truncate 4 = .ok (.invokevirtual 15, 3) := by decide +kernel
theorem dL_truncate_7 : decode cL_truncate 7 = .ok (.i2l, 1) := by decide +kernel
theorem dL_truncate_8 : decode cL_truncate 8 = .ok (.lastore, 1) := by decide +kernel
theorem dL_truncate_9 : decode cL_truncate 9 = .ok (.goto 6, 3) := by decide +kernel
theorem dL_truncate_15 : decode cL_truncate 15 = .ok (.iconst 0, 1) := by decide +kernel
theorem dL_truncate_16 : decode cL_truncate 16 = .ok (.ireturn, 1) := by decide +kernel
theorem dL_truncate_12 : decode cL_truncate 12 = .ok (.astore_n 3, 1) := by decide +kernel
theorem dL_truncate_13 : decode cL_truncate 13 = .ok (.iconst 1, 1) := by decide +kernel
theorem dL_truncate_14 : decode cL_truncate 14 = .ok (.ireturn, 1) := by decide +kernel
theorem dL_hang_0 : decode cL_hang 0 = .ok (.aload 4, 2) := by decide +kernel
theorem dL_hang_2 : decode cL_hang 2 = .ok (.iconst 0, 1) := by decide +kernel
theorem dL_hang_3 : decode cL_hang 3 = .ok (.aload_n 0, 1) := by decide +kernel
theorem dL_hang_4 : decode cL_hang 4 = .ok (.iload_n 1, 1) := by decide +kernel
theorem dL_hang_5 : decode cL_hang 5 = .ok (.iload_n 2, 1) := by decide +kernel
theorem dL_hang_6 : decode cL_hang 6 = .ok (.iload_n 3, 1) := by decide +kernel
theorem dL_hang_7 : decode cL_hang 7 = .ok (.invokevirtual 21, 3) := by decide +kernel
theorem dL_hang_10 : decode cL_hang 10 = .ok (.i2l, 1) := by decide +kernel
theorem dL_hang_11 : decode cL_hang 11 = .ok (.lastore, 1) := by decide +kernel
theorem dL_hang_12 : decode cL_hang 12 = .ok (.goto 11, 3) := by decide +kernel
theorem dL_hang_23 : decode cL_hang 23 = .ok (.iconst 0, 1) := by decide +kernel
theorem dL_hang_24 : decode cL_hang 24 = .ok (.ireturn, 1) := by decide +kernel
theorem dL_hang_15 : decode cL_hang 15 = .ok (.astore 5, 2) := by decide +kernel
theorem dL_hang_17 : decode cL_hang 17 = .ok (.iconst 1, 1) := by decide +kernel
theorem dL_hang_18 : decode cL_hang 18 = .ok (.ireturn, 1) := by decide +kernel
theorem dL_hang_19 : decode cL_hang 19 = .ok (.astore 5, 2) := by decide +kernel
theorem dL_hang_21 : decode cL_hang 21 = .ok (.iconst 2, 1) := by decide +kernel
theorem dL_hang_22 : decode cL_hang 22 = .ok (.ireturn, 1) := by decide +kernel
theorem dL_takeDown_0 : decode cL_takeDown 0 = .ok (.aload_n 2, 1) := by decide +kernel
theorem dL_takeDown_1 : decode cL_takeDown 1 = .ok (.iconst 0, 1) := by decide +kernel
theorem dL_takeDown_2 : decode cL_takeDown 2 = .ok (.aload_n 0, 1) := by decide +kernel
theorem dL_takeDown_3 : decode cL_takeDown 3 = .ok (.iload_n 1, 1) := by decide +kernel
theorem dL_takeDown_4 : decode cL_takeDown 4 = .ok (.invokevirtual 25, 3) := by decide +kernel
theorem dL_takeDown_7 : decode cL_takeDown 7 = .ok (.i2l, 1) := by decide +kernel
theorem dL_takeDown_8 : decode cL_takeDown 8 = .ok (.lastore, 1) := by decide +kernel
theorem dL_takeDown_9 : decode cL_takeDown 9 = .ok (.goto 9, 3) := by decide +kernel
theorem dL_takeDown_18 : decode cL_takeDown 18 = .ok (.iconst 0, 1) := by decide +kernel
theorem dL_takeDown_19 : decode cL_takeDown 19 = .ok (.ireturn, 1) := by decide +kernel
theorem dL_takeDown_12 : decode cL_takeDown 12 = .ok (.astore_n 3, 1) := by decide +kernel
theorem dL_takeDown_13 : decode cL_takeDown 13 = .ok (.iconst 1, 1) := by decide +kernel
theorem dL_takeDown_14 : decode cL_takeDown 14 = .ok (.ireturn, 1) := by decide +kernel
theorem dL_takeDown_15 : decode cL_takeDown 15 = .ok (.astore_n 3, 1) := by decide +kernel
theorem dL_takeDown_16 : decode cL_takeDown 16 = .ok (.iconst 2, 1) := by decide +kernel
theorem dL_takeDown_17 : decode cL_takeDown 17 = .ok (.ireturn, 1) := by decide +kernel
theorem dL_shift_0 : decode cL_shift 0 = .ok (.aload_n 3, 1) := by decide +kernel
theorem dL_shift_1 : decode cL_shift 1 = .ok (.iconst 0, 1) := by decide +kernel
theorem dL_shift_2 : decode cL_shift 2 = .ok (.aload_n 0, 1) := by decide +kernel
theorem dL_shift_3 : decode cL_shift 3 = .ok (.iload_n 1, 1) := by decide +kernel
theorem dL_shift_4 : decode cL_shift 4 = .ok (.iload_n 2, 1) := by decide +kernel
theorem dL_shift_5 : decode cL_shift 5 = .ok (.invokevirtual 28, 3) := by decide +kernel
theorem dL_shift_8 : decode cL_shift 8 = .ok (.i2l, 1) := by decide +kernel
theorem dL_shift_9 : decode cL_shift 9 = .ok (.lastore, 1) := by decide +kernel
theorem dL_shift_10 : decode cL_shift 10 = .ok (.goto 11, 3) := by decide +kernel
theorem dL_shift_21 : decode cL_shift 21 = .ok (.iconst 0, 1) := by decide +kernel
theorem dL_shift_22 : decode cL_shift 22 = .ok (.ireturn, 1) := by decide +kernel
theorem dL_shift_13 : decode cL_shift 13 = .ok (.astore 4, 2) := by decide +kernel
theorem dL_shift_15 : decode cL_shift 15 = .ok (.iconst 1, 1) := by decide +kernel
theorem dL_shift_16 : decode cL_shift 16 = .ok (.ireturn, 1) := by decide +kernel
theorem dL_shift_17 : decode cL_shift 17 = .ok (.astore 4, 2) := by decide +kernel
theorem dL_shift_19 : decode cL_shift 19 = .ok (.iconst 2, 1) := by decide +kernel
theorem dL_shift_20 : decode cL_shift 20 = .ok (.ireturn, 1) := by decide +kernel
theorem dL_beamOf_0 : decode cL_beamOf 0 = .ok (.aload_n 2, 1) := by decide +kernel
theorem dL_beamOf_1 : decode cL_beamOf 1 = .ok (.iconst 0, 1) := by decide +kernel
theorem dL_beamOf_2 : decode cL_beamOf 2 = .ok (.aload_n 0, 1) := by decide +kernel
theorem dL_beamOf_3 : decode cL_beamOf 3 = .ok (.iload_n 1, 1) := by decide +kernel
theorem dL_beamOf_4 : decode cL_beamOf 4 = .ok (.invokevirtual 32, 3) := by decide +kernel
theorem dL_beamOf_7 : decode cL_beamOf 7 = .ok (.i2l, 1) := by decide +kernel
theorem dL_beamOf_8 : decode cL_beamOf 8 = .ok (.lastore, 1) := by decide +kernel
theorem dL_beamOf_9 : decode cL_beamOf 9 = .ok (.goto 9, 3) := by decide +kernel
theorem dL_beamOf_18 : decode cL_beamOf 18 = .ok (.iconst 0, 1) := by decide +kernel
theorem dL_beamOf_19 : decode cL_beamOf 19 = .ok (.ireturn, 1) := by decide +kernel
theorem dL_beamOf_12 : decode cL_beamOf 12 = .ok (.astore_n 3, 1) := by decide +kernel
theorem dL_beamOf_13 : decode cL_beamOf 13 = .ok (.iconst 1, 1) := by decide +kernel
theorem dL_beamOf_14 : decode cL_beamOf 14 = .ok (.ireturn, 1) := by decide +kernel
theorem dL_beamOf_15 : decode cL_beamOf 15 = .ok (.astore_n 3, 1) := by decide +kernel
theorem dL_beamOf_16 : decode cL_beamOf 16 = .ok (.iconst 2, 1) := by decide +kernel
theorem dL_beamOf_17 : decode cL_beamOf 17 = .ok (.ireturn, 1) := by decide +kernel
theorem dL_positionOf_0 : decode cL_positionOf 0 = .ok (.aload_n 2, 1) := by decide +kernel
theorem dL_positionOf_1 : decode cL_positionOf 1 = .ok (.iconst 0, 1) := by decide +kernel
theorem dL_positionOf_2 : decode cL_positionOf 2 = .ok (.aload_n 0, 1) := by decide +kernel
theorem dL_positionOf_3 : decode cL_positionOf 3 = .ok (.iload_n 1, 1) := by decide +kernel
theorem dL_positionOf_4 : decode cL_positionOf 4 = .ok (.invokevirtual 35, 3) := by decide +kernel
theorem dL_positionOf_7 : decode cL_positionOf 7 = .ok (.i2l, 1) := by decide +kernel
theorem dL_positionOf_8 : decode cL_positionOf 8 = .ok (.lastore, 1) := by decide +kernel
theorem dL_positionOf_9 : decode cL_positionOf 9 = .ok (.goto 12, 3) := by decide +kernel
theorem dL_positionOf_21 : decode cL_positionOf 21 = .ok (.iconst 0, 1) := by decide +kernel
theorem dL_positionOf_22 : decode cL_positionOf 22 = .ok (.ireturn, 1) := by decide +kernel
theorem dL_positionOf_12 : decode cL_positionOf 12 = .ok (.astore_n 3, 1) := by decide +kernel
theorem dL_positionOf_13 : decode cL_positionOf 13 = .ok (.iconst 1, 1) := by decide +kernel
theorem dL_positionOf_14 : decode cL_positionOf 14 = .ok (.ireturn, 1) := by decide +kernel
theorem dL_positionOf_15 : decode cL_positionOf 15 = .ok (.astore_n 3, 1) := by decide +kernel
theorem dL_positionOf_16 : decode cL_positionOf 16 = .ok (.iconst 2, 1) := by decide +kernel
theorem dL_positionOf_17 : decode cL_positionOf 17 = .ok (.ireturn, 1) := by decide +kernel
theorem dL_positionOf_18 : decode cL_positionOf 18 = .ok (.astore_n 3, 1) := by decide +kernel
theorem dL_positionOf_19 : decode cL_positionOf 19 = .ok (.iconst 3, 1) := by decide +kernel
theorem dL_positionOf_20 : decode cL_positionOf 20 = .ok (.ireturn, 1) := by decide +kernel
theorem dL_torque_0 : decode cL_torque 0 = .ok (.aload_n 2, 1) := by decide +kernel
theorem dL_torque_1 : decode cL_torque 1 = .ok (.iconst 0, 1) := by decide +kernel
theorem dL_torque_2 : decode cL_torque 2 = .ok (.aload_n 0, 1) := by decide +kernel
theorem dL_torque_3 : decode cL_torque 3 = .ok (.iload_n 1, 1) := by decide +kernel
theorem dL_torque_4 : decode cL_torque 4 = .ok (.invokevirtual 40, 3) := by decide +kernel
theorem dL_torque_7 : decode cL_torque 7 = .ok (.i2l, 1) := by decide +kernel
theorem dL_torque_8 : decode cL_torque 8 = .ok (.lastore, 1) := by decide +kernel
theorem dL_torque_9 : decode cL_torque 9 = .ok (.goto 9, 3) := by decide +kernel
theorem dL_torque_18 : decode cL_torque 18 = .ok (.iconst 0, 1) := by decide +kernel
theorem dL_torque_19 : decode cL_torque 19 = .ok (.ireturn, 1) := by decide +kernel
theorem dL_torque_12 : decode cL_torque 12 = .ok (.astore_n 3, 1) := by decide +kernel
theorem dL_torque_13 : decode cL_torque 13 = .ok (.iconst 1, 1) := by decide +kernel
theorem dL_torque_14 : decode cL_torque 14 = .ok (.ireturn, 1) := by decide +kernel
theorem dL_torque_15 : decode cL_torque 15 = .ok (.astore_n 3, 1) := by decide +kernel
theorem dL_torque_16 : decode cL_torque 16 = .ok (.iconst 2, 1) := by decide +kernel
theorem dL_torque_17 : decode cL_torque 17 = .ok (.ireturn, 1) := by decide +kernel
theorem dL_bellAt_0 : decode cL_bellAt 0 = .ok (.aload_n 3, 1) := by decide +kernel
theorem dL_bellAt_1 : decode cL_bellAt 1 = .ok (.iconst 0, 1) := by decide +kernel
theorem dL_bellAt_2 : decode cL_bellAt 2 = .ok (.aload_n 0, 1) := by decide +kernel
theorem dL_bellAt_3 : decode cL_bellAt 3 = .ok (.iload_n 1, 1) := by decide +kernel
theorem dL_bellAt_4 : decode cL_bellAt 4 = .ok (.iload_n 2, 1) := by decide +kernel
theorem dL_bellAt_5 : decode cL_bellAt 5 = .ok (.invokevirtual 43, 3) := by decide +kernel
theorem dL_bellAt_8 : decode cL_bellAt 8 = .ok (.i2l, 1) := by decide +kernel
theorem dL_bellAt_9 : decode cL_bellAt 9 = .ok (.lastore, 1) := by decide +kernel
theorem dL_bellAt_10 : decode cL_bellAt 10 = .ok (.goto 11, 3) := by decide +kernel
theorem dL_bellAt_21 : decode cL_bellAt 21 = .ok (.iconst 0, 1) := by decide +kernel
theorem dL_bellAt_22 : decode cL_bellAt 22 = .ok (.ireturn, 1) := by decide +kernel
theorem dL_bellAt_13 : decode cL_bellAt 13 = .ok (.astore 4, 2) := by decide +kernel
theorem dL_bellAt_15 : decode cL_bellAt 15 = .ok (.iconst 1, 1) := by decide +kernel
theorem dL_bellAt_16 : decode cL_bellAt 16 = .ok (.ireturn, 1) := by decide +kernel
theorem dL_bellAt_17 : decode cL_bellAt 17 = .ok (.astore 4, 2) := by decide +kernel
theorem dL_bellAt_19 : decode cL_bellAt 19 = .ok (.iconst 2, 1) := by decide +kernel
theorem dL_bellAt_20 : decode cL_bellAt 20 = .ok (.ireturn, 1) := by decide +kernel
theorem dL_freePositions_0 : decode cL_freePositions 0 = .ok (.aload_n 3, 1) := by decide +kernel
theorem dL_freePositions_1 : decode cL_freePositions 1 = .ok (.iconst 0, 1) := by decide +kernel
theorem dL_freePositions_2 : decode cL_freePositions 2 = .ok (.aload_n 0, 1) := by decide +kernel
theorem dL_freePositions_3 : decode cL_freePositions 3 = .ok (.iload_n 1, 1) := by decide +kernel
theorem dL_freePositions_4 : decode cL_freePositions 4 = .ok (.iload_n 2, 1) := by decide +kernel
theorem dL_freePositions_5 : decode cL_freePositions 5 = .ok (.invokevirtual 46, 3) := by decide +kernel
theorem dL_freePositions_8 : decode cL_freePositions 8 = .ok (.i2l, 1) := by decide +kernel
theorem dL_freePositions_9 : decode cL_freePositions 9 = .ok (.lastore, 1) := by decide +kernel
theorem dL_freePositions_10 : decode cL_freePositions 10 = .ok (.goto 11, 3) := by decide +kernel
theorem dL_freePositions_21 : decode cL_freePositions 21 = .ok (.iconst 0, 1) := by decide +kernel
theorem dL_freePositions_22 : decode cL_freePositions 22 = .ok (.ireturn, 1) := by decide +kernel
theorem dL_freePositions_13 : decode cL_freePositions 13 = .ok (.astore 4, 2) := by decide +kernel
theorem dL_freePositions_15 : decode cL_freePositions 15 = .ok (.iconst 1, 1) := by decide +kernel
theorem dL_freePositions_16 : decode cL_freePositions 16 = .ok (.ireturn, 1) := by decide +kernel
theorem dL_freePositions_17 : decode cL_freePositions 17 = .ok (.astore 4, 2) := by decide +kernel
theorem dL_freePositions_19 : decode cL_freePositions 19 = .ok (.iconst 2, 1) := by decide +kernel
theorem dL_freePositions_20 : decode cL_freePositions 20 = .ok (.ireturn, 1) := by decide +kernel
theorem dL_bestPosition_0 : decode cL_bestPosition 0 = .ok (.aload_n 3, 1) := by decide +kernel
theorem dL_bestPosition_1 : decode cL_bestPosition 1 = .ok (.iconst 0, 1) := by decide +kernel
theorem dL_bestPosition_2 : decode cL_bestPosition 2 = .ok (.aload_n 0, 1) := by decide +kernel
theorem dL_bestPosition_3 : decode cL_bestPosition 3 = .ok (.iload_n 1, 1) := by decide +kernel
theorem dL_bestPosition_4 : decode cL_bestPosition 4 = .ok (.iload_n 2, 1) := by decide +kernel
theorem dL_bestPosition_5 : decode cL_bestPosition 5 = .ok (.invokevirtual 49, 3) := by decide +kernel
theorem dL_bestPosition_8 : decode cL_bestPosition 8 = .ok (.i2l, 1) := by decide +kernel
theorem dL_bestPosition_9 : decode cL_bestPosition 9 = .ok (.lastore, 1) := by decide +kernel
theorem dL_bestPosition_10 : decode cL_bestPosition 10 = .ok (.goto 11, 3) := by decide +kernel
theorem dL_bestPosition_21 : decode cL_bestPosition 21 = .ok (.iconst 0, 1) := by decide +kernel
theorem dL_bestPosition_22 : decode cL_bestPosition 22 = .ok (.ireturn, 1) := by decide +kernel
theorem dL_bestPosition_13 : decode cL_bestPosition 13 = .ok (.astore 4, 2) := by decide +kernel
theorem dL_bestPosition_15 : decode cL_bestPosition 15 = .ok (.iconst 1, 1) := by decide +kernel
theorem dL_bestPosition_16 : decode cL_bestPosition 16 = .ok (.ireturn, 1) := by decide +kernel
theorem dL_bestPosition_17 : decode cL_bestPosition 17 = .ok (.astore 4, 2) := by decide +kernel
theorem dL_bestPosition_19 : decode cL_bestPosition 19 = .ok (.iconst 2, 1) := by decide +kernel
theorem dL_bestPosition_20 : decode cL_bestPosition 20 = .ok (.ireturn, 1) := by decide +kernel
theorem dL_mirroredTorque_0 : decode cL_mirroredTorque 0 = .ok (.aload_n 2, 1) := by decide +kernel
theorem dL_mirroredTorque_1 : decode cL_mirroredTorque 1 = .ok (.iconst 0, 1) := by decide +kernel
theorem dL_mirroredTorque_2 : decode cL_mirroredTorque 2 = .ok (.aload_n 0, 1) := by decide +kernel
theorem dL_mirroredTorque_3 : decode cL_mirroredTorque 3 = .ok (.iload_n 1, 1) := by decide +kernel
theorem dL_mirroredTorque_4 : decode cL_mirroredTorque 4 = .ok (.invokevirtual 52, 3) := by decide +kernel
theorem dL_mirroredTorque_7 : decode cL_mirroredTorque 7 = .ok (.i2l, 1) := by decide +kernel
theorem dL_mirroredTorque_8 : decode cL_mirroredTorque 8 = .ok (.lastore, 1) := by decide +kernel
theorem dL_mirroredTorque_9 : decode cL_mirroredTorque 9 = .ok (.goto 9, 3) := by decide +kernel
theorem dL_mirroredTorque_18 : decode cL_mirroredTorque 18 = .ok (.iconst 0, 1) := by decide +kernel
theorem dL_mirroredTorque_19 : decode cL_mirroredTorque 19 = .ok (.ireturn, 1) := by decide +kernel
theorem dL_mirroredTorque_12 : decode cL_mirroredTorque 12 = .ok (.astore_n 3, 1) := by decide +kernel
theorem dL_mirroredTorque_13 : decode cL_mirroredTorque 13 = .ok (.iconst 1, 1) := by decide +kernel
theorem dL_mirroredTorque_14 : decode cL_mirroredTorque 14 = .ok (.ireturn, 1) := by decide +kernel
theorem dL_mirroredTorque_15 : decode cL_mirroredTorque 15 = .ok (.astore_n 3, 1) := by decide +kernel
theorem dL_mirroredTorque_16 : decode cL_mirroredTorque 16 = .ok (.iconst 2, 1) := by decide +kernel
theorem dL_mirroredTorque_17 : decode cL_mirroredTorque 17 = .ok (.ireturn, 1) := by decide +kernel
theorem dL_mirroredBells_0 : decode cL_mirroredBells 0 = .ok (.aload_n 2, 1) := by decide +kernel
theorem dL_mirroredBells_1 : decode cL_mirroredBells 1 = .ok (.iconst 0, 1) := by decide +kernel
theorem dL_mirroredBells_2 : decode cL_mirroredBells 2 = .ok (.aload_n 0, 1) := by decide +kernel
theorem dL_mirroredBells_3 : decode cL_mirroredBells 3 = .ok (.iload_n 1, 1) := by decide +kernel
theorem dL_mirroredBells_4 : decode cL_mirroredBells 4 = .ok (.invokevirtual 55, 3) := by decide +kernel
theorem dL_mirroredBells_7 : decode cL_mirroredBells 7 = .ok (.i2l, 1) := by decide +kernel
theorem dL_mirroredBells_8 : decode cL_mirroredBells 8 = .ok (.lastore, 1) := by decide +kernel
theorem dL_mirroredBells_9 : decode cL_mirroredBells 9 = .ok (.goto 9, 3) := by decide +kernel
theorem dL_mirroredBells_18 : decode cL_mirroredBells 18 = .ok (.iconst 0, 1) := by decide +kernel
theorem dL_mirroredBells_19 : decode cL_mirroredBells 19 = .ok (.ireturn, 1) := by decide +kernel
theorem dL_mirroredBells_12 : decode cL_mirroredBells 12 = .ok (.astore_n 3, 1) := by decide +kernel
theorem dL_mirroredBells_13 : decode cL_mirroredBells 13 = .ok (.iconst 1, 1) := by decide +kernel
theorem dL_mirroredBells_14 : decode cL_mirroredBells 14 = .ok (.ireturn, 1) := by decide +kernel
theorem dL_mirroredBells_15 : decode cL_mirroredBells 15 = .ok (.astore_n 3, 1) := by decide +kernel
theorem dL_mirroredBells_16 : decode cL_mirroredBells 16 = .ok (.iconst 2, 1) := by decide +kernel
theorem dL_mirroredBells_17 : decode cL_mirroredBells 17 = .ok (.ireturn, 1) := by decide +kernel
theorem dL_setPlan_0 : decode cL_setPlan 0 = .ok (.aload 4, 2) := by decide +kernel
theorem dL_setPlan_2 : decode cL_setPlan 2 = .ok (.iconst 0, 1) := by decide +kernel
theorem dL_setPlan_3 : decode cL_setPlan 3 = .ok (.aload_n 0, 1) := by decide +kernel
theorem dL_setPlan_4 : decode cL_setPlan 4 = .ok (.iload_n 1, 1) := by decide +kernel
theorem dL_setPlan_5 : decode cL_setPlan 5 = .ok (.iload_n 2, 1) := by decide +kernel
theorem dL_setPlan_6 : decode cL_setPlan 6 = .ok (.iload_n 3, 1) := by decide +kernel
theorem dL_setPlan_7 : decode cL_setPlan 7 = .ok (.invokevirtual 58, 3) := by decide +kernel
theorem dL_setPlan_10 : decode cL_setPlan 10 = .ok (.i2l, 1) := by decide +kernel
theorem dL_setPlan_11 : decode cL_setPlan 11 = .ok (.lastore, 1) := by decide +kernel
theorem dL_setPlan_12 : decode cL_setPlan 12 = .ok (.goto 11, 3) := by decide +kernel
theorem dL_setPlan_23 : decode cL_setPlan 23 = .ok (.iconst 0, 1) := by decide +kernel
theorem dL_setPlan_24 : decode cL_setPlan 24 = .ok (.ireturn, 1) := by decide +kernel
theorem dL_setPlan_15 : decode cL_setPlan 15 = .ok (.astore 5, 2) := by decide +kernel
theorem dL_setPlan_17 : decode cL_setPlan 17 = .ok (.iconst 1, 1) := by decide +kernel
theorem dL_setPlan_18 : decode cL_setPlan 18 = .ok (.ireturn, 1) := by decide +kernel
theorem dL_setPlan_19 : decode cL_setPlan 19 = .ok (.astore 5, 2) := by decide +kernel
theorem dL_setPlan_21 : decode cL_setPlan 21 = .ok (.iconst 2, 1) := by decide +kernel
theorem dL_setPlan_22 : decode cL_setPlan 22 = .ok (.ireturn, 1) := by decide +kernel
theorem dL_clearPlan_0 : decode cL_clearPlan 0 = .ok (.aload_n 2, 1) := by decide +kernel
theorem dL_clearPlan_1 : decode cL_clearPlan 1 = .ok (.iconst 0, 1) := by decide +kernel
theorem dL_clearPlan_2 : decode cL_clearPlan 2 = .ok (.aload_n 0, 1) := by decide +kernel
theorem dL_clearPlan_3 : decode cL_clearPlan 3 = .ok (.iload_n 1, 1) := by decide +kernel
theorem dL_clearPlan_4 : decode cL_clearPlan 4 = .ok (.invokevirtual 61, 3) := by decide +kernel
theorem dL_clearPlan_7 : decode cL_clearPlan 7 = .ok (.i2l, 1) := by decide +kernel
theorem dL_clearPlan_8 : decode cL_clearPlan 8 = .ok (.lastore, 1) := by decide +kernel
theorem dL_clearPlan_9 : decode cL_clearPlan 9 = .ok (.goto 9, 3) := by decide +kernel
theorem dL_clearPlan_18 : decode cL_clearPlan 18 = .ok (.iconst 0, 1) := by decide +kernel
theorem dL_clearPlan_19 : decode cL_clearPlan 19 = .ok (.ireturn, 1) := by decide +kernel
theorem dL_clearPlan_12 : decode cL_clearPlan 12 = .ok (.astore_n 3, 1) := by decide +kernel
theorem dL_clearPlan_13 : decode cL_clearPlan 13 = .ok (.iconst 1, 1) := by decide +kernel
theorem dL_clearPlan_14 : decode cL_clearPlan 14 = .ok (.ireturn, 1) := by decide +kernel
theorem dL_clearPlan_15 : decode cL_clearPlan 15 = .ok (.astore_n 3, 1) := by decide +kernel
theorem dL_clearPlan_16 : decode cL_clearPlan 16 = .ok (.iconst 2, 1) := by decide +kernel
theorem dL_clearPlan_17 : decode cL_clearPlan 17 = .ok (.ireturn, 1) := by decide +kernel
theorem dL_planConflicts_0 : decode cL_planConflicts 0 = .ok (.aload_n 1, 1) := by decide +kernel
theorem dL_planConflicts_1 : decode cL_planConflicts 1 = .ok (.iconst 0, 1) := by decide +kernel
theorem dL_planConflicts_2 : decode cL_planConflicts 2 = .ok (.aload_n 0, 1) := by decide +kernel
theorem dL_planConflicts_3 : decode cL_planConflicts 3 = .ok (.invokevirtual 64, 3) := by decide +kernel
theorem dL_planConflicts_6 : decode cL_planConflicts 6 = .ok (.i2l, 1) := by decide +kernel
theorem dL_planConflicts_7 : decode cL_planConflicts 7 = .ok (.lastore, 1) := by decide +kernel
theorem dL_planConflicts_8 : decode cL_planConflicts 8 = .ok (.goto 6, 3) := by decide +kernel
theorem dL_planConflicts_14 : decode cL_planConflicts 14 = .ok (.iconst 0, 1) := by decide +kernel
theorem dL_planConflicts_15 : decode cL_planConflicts 15 = .ok (.ireturn, 1) := by decide +kernel
theorem dL_planConflicts_11 : decode cL_planConflicts 11 = .ok (.astore_n 2, 1) := by decide +kernel
theorem dL_planConflicts_12 : decode cL_planConflicts 12 = .ok (.iconst 1, 1) := by decide +kernel
theorem dL_planConflicts_13 : decode cL_planConflicts 13 = .ok (.ireturn, 1) := by decide +kernel
theorem dL_planUnbalanced_0 : decode cL_planUnbalanced 0 = .ok (.aload_n 1, 1) := by decide +kernel
theorem dL_planUnbalanced_1 : decode cL_planUnbalanced 1 = .ok (.iconst 0, 1) := by decide +kernel
theorem dL_planUnbalanced_2 : decode cL_planUnbalanced 2 = .ok (.aload_n 0, 1) := by decide +kernel
theorem dL_planUnbalanced_3 : decode cL_planUnbalanced 3 = .ok (.invokevirtual 68, 3) := by decide +kernel
theorem dL_planUnbalanced_6 : decode cL_planUnbalanced 6 = .ok (.i2l, 1) := by decide +kernel
theorem dL_planUnbalanced_7 : decode cL_planUnbalanced 7 = .ok (.lastore, 1) := by decide +kernel
theorem dL_planUnbalanced_8 : decode cL_planUnbalanced 8 = .ok (.goto 6, 3) := by decide +kernel
theorem dL_planUnbalanced_14 : decode cL_planUnbalanced 14 = .ok (.iconst 0, 1) := by decide +kernel
theorem dL_planUnbalanced_15 : decode cL_planUnbalanced 15 = .ok (.ireturn, 1) := by decide +kernel
theorem dL_planUnbalanced_11 : decode cL_planUnbalanced 11 = .ok (.astore_n 2, 1) := by decide +kernel
theorem dL_planUnbalanced_12 : decode cL_planUnbalanced 12 = .ok (.iconst 1, 1) := by decide +kernel
theorem dL_planUnbalanced_13 : decode cL_planUnbalanced 13 = .ok (.ireturn, 1) := by decide +kernel
theorem dL_stepsToPlan_0 : decode cL_stepsToPlan 0 = .ok (.aload_n 1, 1) := by decide +kernel
theorem dL_stepsToPlan_1 : decode cL_stepsToPlan 1 = .ok (.iconst 0, 1) := by decide +kernel
theorem dL_stepsToPlan_2 : decode cL_stepsToPlan 2 = .ok (.aload_n 0, 1) := by decide +kernel
theorem dL_stepsToPlan_3 : decode cL_stepsToPlan 3 = .ok (.invokevirtual 71, 3) := by decide +kernel
theorem dL_stepsToPlan_6 : decode cL_stepsToPlan 6 = .ok (.i2l, 1) := by decide +kernel
theorem dL_stepsToPlan_7 : decode cL_stepsToPlan 7 = .ok (.lastore, 1) := by decide +kernel
theorem dL_stepsToPlan_8 : decode cL_stepsToPlan 8 = .ok (.goto 6, 3) := by decide +kernel
theorem dL_stepsToPlan_14 : decode cL_stepsToPlan 14 = .ok (.iconst 0, 1) := by decide +kernel
theorem dL_stepsToPlan_15 : decode cL_stepsToPlan 15 = .ok (.ireturn, 1) := by decide +kernel
theorem dL_stepsToPlan_11 : decode cL_stepsToPlan 11 = .ok (.astore_n 2, 1) := by decide +kernel
theorem dL_stepsToPlan_12 : decode cL_stepsToPlan 12 = .ok (.iconst 1, 1) := by decide +kernel
theorem dL_stepsToPlan_13 : decode cL_stepsToPlan 13 = .ok (.ireturn, 1) := by decide +kernel
theorem dL_planStep_0 : decode cL_planStep 0 = .ok (.aload_n 2, 1) := by decide +kernel
theorem dL_planStep_1 : decode cL_planStep 1 = .ok (.iconst 0, 1) := by decide +kernel
theorem dL_planStep_2 : decode cL_planStep 2 = .ok (.aload_n 0, 1) := by decide +kernel
theorem dL_planStep_3 : decode cL_planStep 3 = .ok (.iload_n 1, 1) := by decide +kernel
theorem dL_planStep_4 : decode cL_planStep 4 = .ok (.invokevirtual 74, 3) := by decide +kernel
theorem dL_planStep_7 : decode cL_planStep 7 = .ok (.i2l, 1) := by decide +kernel
theorem dL_planStep_8 : decode cL_planStep 8 = .ok (.lastore, 1) := by decide +kernel
theorem dL_planStep_9 : decode cL_planStep 9 = .ok (.goto 9, 3) := by decide +kernel
theorem dL_planStep_18 : decode cL_planStep 18 = .ok (.iconst 0, 1) := by decide +kernel
theorem dL_planStep_19 : decode cL_planStep 19 = .ok (.ireturn, 1) := by decide +kernel
theorem dL_planStep_12 : decode cL_planStep 12 = .ok (.astore_n 3, 1) := by decide +kernel
theorem dL_planStep_13 : decode cL_planStep 13 = .ok (.iconst 1, 1) := by decide +kernel
theorem dL_planStep_14 : decode cL_planStep 14 = .ok (.ireturn, 1) := by decide +kernel
theorem dL_planStep_15 : decode cL_planStep 15 = .ok (.astore_n 3, 1) := by decide +kernel
theorem dL_planStep_16 : decode cL_planStep 16 = .ok (.iconst 2, 1) := by decide +kernel
theorem dL_planStep_17 : decode cL_planStep 17 = .ok (.ireturn, 1) := by decide +kernel
theorem dL_startSwing_0 : decode cL_startSwing 0 = .ok (.aload 4, 2) := by decide +kernel
theorem dL_startSwing_2 : decode cL_startSwing 2 = .ok (.iconst 0, 1) := by decide +kernel
theorem dL_startSwing_3 : decode cL_startSwing 3 = .ok (.aload_n 0, 1) := by decide +kernel
theorem dL_startSwing_4 : decode cL_startSwing 4 = .ok (.iload_n 1, 1) := by decide +kernel
theorem dL_startSwing_5 : decode cL_startSwing 5 = .ok (.iload_n 2, 1) := by decide +kernel
theorem dL_startSwing_6 : decode cL_startSwing 6 = .ok (.iload_n 3, 1) := by decide +kernel
theorem dL_startSwing_7 : decode cL_startSwing 7 = .ok (.invokevirtual 77, 3) := by decide +kernel
theorem dL_startSwing_10 : decode cL_startSwing 10 = .ok (.i2l, 1) := by decide +kernel
theorem dL_startSwing_11 : decode cL_startSwing 11 = .ok (.lastore, 1) := by decide +kernel
theorem dL_startSwing_12 : decode cL_startSwing 12 = .ok (.goto 11, 3) := by decide +kernel
theorem dL_startSwing_23 : decode cL_startSwing 23 = .ok (.iconst 0, 1) := by decide +kernel
theorem dL_startSwing_24 : decode cL_startSwing 24 = .ok (.ireturn, 1) := by decide +kernel
theorem dL_startSwing_15 : decode cL_startSwing 15 = .ok (.astore 5, 2) := by decide +kernel
theorem dL_startSwing_17 : decode cL_startSwing 17 = .ok (.iconst 1, 1) := by decide +kernel
theorem dL_startSwing_18 : decode cL_startSwing 18 = .ok (.ireturn, 1) := by decide +kernel
theorem dL_startSwing_19 : decode cL_startSwing 19 = .ok (.astore 5, 2) := by decide +kernel
theorem dL_startSwing_21 : decode cL_startSwing 21 = .ok (.iconst 2, 1) := by decide +kernel
theorem dL_startSwing_22 : decode cL_startSwing 22 = .ok (.ireturn, 1) := by decide +kernel
theorem dL_stopSwing_0 : decode cL_stopSwing 0 = .ok (.aload_n 2, 1) := by decide +kernel
theorem dL_stopSwing_1 : decode cL_stopSwing 1 = .ok (.iconst 0, 1) := by decide +kernel
theorem dL_stopSwing_2 : decode cL_stopSwing 2 = .ok (.aload_n 0, 1) := by decide +kernel
theorem dL_stopSwing_3 : decode cL_stopSwing 3 = .ok (.iload_n 1, 1) := by decide +kernel
theorem dL_stopSwing_4 : decode cL_stopSwing 4 = .ok (.invokevirtual 80, 3) := by decide +kernel
theorem dL_stopSwing_7 : decode cL_stopSwing 7 = .ok (.i2l, 1) := by decide +kernel
theorem dL_stopSwing_8 : decode cL_stopSwing 8 = .ok (.lastore, 1) := by decide +kernel
theorem dL_stopSwing_9 : decode cL_stopSwing 9 = .ok (.goto 9, 3) := by decide +kernel
theorem dL_stopSwing_18 : decode cL_stopSwing 18 = .ok (.iconst 0, 1) := by decide +kernel
theorem dL_stopSwing_19 : decode cL_stopSwing 19 = .ok (.ireturn, 1) := by decide +kernel
theorem dL_stopSwing_12 : decode cL_stopSwing 12 = .ok (.astore_n 3, 1) := by decide +kernel
theorem dL_stopSwing_13 : decode cL_stopSwing 13 = .ok (.iconst 1, 1) := by decide +kernel
theorem dL_stopSwing_14 : decode cL_stopSwing 14 = .ok (.ireturn, 1) := by decide +kernel
theorem dL_stopSwing_15 : decode cL_stopSwing 15 = .ok (.astore_n 3, 1) := by decide +kernel
theorem dL_stopSwing_16 : decode cL_stopSwing 16 = .ok (.iconst 2, 1) := by decide +kernel
theorem dL_stopSwing_17 : decode cL_stopSwing 17 = .ok (.ireturn, 1) := by decide +kernel
theorem dL_offset_0 : decode cL_offset 0 = .ok (.aload_n 3, 1) := by decide +kernel
theorem dL_offset_1 : decode cL_offset 1 = .ok (.iconst 0, 1) := by decide +kernel
theorem dL_offset_2 : decode cL_offset 2 = .ok (.aload_n 0, 1) := by decide +kernel
theorem dL_offset_3 : decode cL_offset 3 = .ok (.iload_n 1, 1) := by decide +kernel
theorem dL_offset_4 : decode cL_offset 4 = .ok (.iload_n 2, 1) := by decide +kernel
theorem dL_offset_5 : decode cL_offset 5 = .ok (.invokevirtual 83, 3) := by decide +kernel
theorem dL_offset_8 : decode cL_offset 8 = .ok (.i2l, 1) := by decide +kernel
theorem dL_offset_9 : decode cL_offset 9 = .ok (.lastore, 1) := by decide +kernel
theorem dL_offset_10 : decode cL_offset 10 = .ok (.goto 15, 3) := by decide +kernel
theorem dL_offset_25 : decode cL_offset 25 = .ok (.iconst 0, 1) := by decide +kernel
theorem dL_offset_26 : decode cL_offset 26 = .ok (.ireturn, 1) := by decide +kernel
theorem dL_offset_13 : decode cL_offset 13 = .ok (.astore 4, 2) := by decide +kernel
theorem dL_offset_15 : decode cL_offset 15 = .ok (.iconst 1, 1) := by decide +kernel
theorem dL_offset_16 : decode cL_offset 16 = .ok (.ireturn, 1) := by decide +kernel
theorem dL_offset_17 : decode cL_offset 17 = .ok (.astore 4, 2) := by decide +kernel
theorem dL_offset_19 : decode cL_offset 19 = .ok (.iconst 2, 1) := by decide +kernel
theorem dL_offset_20 : decode cL_offset 20 = .ok (.ireturn, 1) := by decide +kernel
theorem dL_offset_21 : decode cL_offset 21 = .ok (.astore 4, 2) := by decide +kernel
theorem dL_offset_23 : decode cL_offset 23 = .ok (.iconst 3, 1) := by decide +kernel
theorem dL_offset_24 : decode cL_offset 24 = .ok (.ireturn, 1) := by decide +kernel
theorem dL_gap_0 : decode cL_gap 0 = .ok (.aload 4, 2) := by decide +kernel
theorem dL_gap_2 : decode cL_gap 2 = .ok (.iconst 0, 1) := by decide +kernel
theorem dL_gap_3 : decode cL_gap 3 = .ok (.aload_n 0, 1) := by decide +kernel
theorem dL_gap_4 : decode cL_gap 4 = .ok (.iload_n 1, 1) := by decide +kernel
theorem dL_gap_5 : decode cL_gap 5 = .ok (.iload_n 2, 1) := by decide +kernel
theorem dL_gap_6 : decode cL_gap 6 = .ok (.iload_n 3, 1) := by decide +kernel
theorem dL_gap_7 : decode cL_gap 7 = .ok (.invokevirtual 86, 3) := by decide +kernel
theorem dL_gap_10 : decode cL_gap 10 = .ok (.i2l, 1) := by decide +kernel
theorem dL_gap_11 : decode cL_gap 11 = .ok (.lastore, 1) := by decide +kernel
theorem dL_gap_12 : decode cL_gap 12 = .ok (.goto 15, 3) := by decide +kernel
theorem dL_gap_27 : decode cL_gap 27 = .ok (.iconst 0, 1) := by decide +kernel
theorem dL_gap_28 : decode cL_gap 28 = .ok (.ireturn, 1) := by decide +kernel
theorem dL_gap_15 : decode cL_gap 15 = .ok (.astore 5, 2) := by decide +kernel
theorem dL_gap_17 : decode cL_gap 17 = .ok (.iconst 1, 1) := by decide +kernel
theorem dL_gap_18 : decode cL_gap 18 = .ok (.ireturn, 1) := by decide +kernel
theorem dL_gap_19 : decode cL_gap 19 = .ok (.astore 5, 2) := by decide +kernel
theorem dL_gap_21 : decode cL_gap 21 = .ok (.iconst 2, 1) := by decide +kernel
theorem dL_gap_22 : decode cL_gap 22 = .ok (.ireturn, 1) := by decide +kernel
theorem dL_gap_23 : decode cL_gap 23 = .ok (.astore 5, 2) := by decide +kernel
theorem dL_gap_25 : decode cL_gap 25 = .ok (.iconst 3, 1) := by decide +kernel
theorem dL_gap_26 : decode cL_gap 26 = .ok (.ireturn, 1) := by decide +kernel
theorem dL_firstCollision_0 : decode cL_firstCollision 0 = .ok (.aload_n 1, 1) := by decide +kernel
theorem dL_firstCollision_1 : decode cL_firstCollision 1 = .ok (.iconst 0, 1) := by decide +kernel
theorem dL_firstCollision_2 : decode cL_firstCollision 2 = .ok (.aload_n 0, 1) := by decide +kernel
theorem dL_firstCollision_3 : decode cL_firstCollision 3 = .ok (.invokevirtual 89, 3) := by decide +kernel
theorem dL_firstCollision_6 : decode cL_firstCollision 6 = .ok (.i2l, 1) := by decide +kernel
theorem dL_firstCollision_7 : decode cL_firstCollision 7 = .ok (.lastore, 1) := by decide +kernel
theorem dL_firstCollision_8 : decode cL_firstCollision 8 = .ok (.goto 6, 3) := by decide +kernel
theorem dL_firstCollision_14 : decode cL_firstCollision 14 = .ok (.iconst 0, 1) := by decide +kernel
theorem dL_firstCollision_15 : decode cL_firstCollision 15 = .ok (.ireturn, 1) := by decide +kernel
theorem dL_firstCollision_11 : decode cL_firstCollision 11 = .ok (.astore_n 2, 1) := by decide +kernel
theorem dL_firstCollision_12 : decode cL_firstCollision 12 = .ok (.iconst 1, 1) := by decide +kernel
theorem dL_firstCollision_13 : decode cL_firstCollision 13 = .ok (.ireturn, 1) := by decide +kernel
theorem dL_collidingBells_0 : decode cL_collidingBells 0 = .ok (.aload_n 1, 1) := by decide +kernel
theorem dL_collidingBells_1 : decode cL_collidingBells 1 = .ok (.iconst 0, 1) := by decide +kernel
theorem dL_collidingBells_2 : decode cL_collidingBells 2 = .ok (.aload_n 0, 1) := by decide +kernel
theorem dL_collidingBells_3 : decode cL_collidingBells 3 = .ok (.invokevirtual 92, 3) := by decide +kernel
theorem dL_collidingBells_6 : decode cL_collidingBells 6 = .ok (.i2l, 1) := by decide +kernel
theorem dL_collidingBells_7 : decode cL_collidingBells 7 = .ok (.lastore, 1) := by decide +kernel
theorem dL_collidingBells_8 : decode cL_collidingBells 8 = .ok (.goto 6, 3) := by decide +kernel
theorem dL_collidingBells_14 : decode cL_collidingBells 14 = .ok (.iconst 0, 1) := by decide +kernel
theorem dL_collidingBells_15 : decode cL_collidingBells 15 = .ok (.ireturn, 1) := by decide +kernel
theorem dL_collidingBells_11 : decode cL_collidingBells 11 = .ok (.astore_n 2, 1) := by decide +kernel
theorem dL_collidingBells_12 : decode cL_collidingBells 12 = .ok (.iconst 1, 1) := by decide +kernel
theorem dL_collidingBells_13 : decode cL_collidingBells 13 = .ok (.ireturn, 1) := by decide +kernel
theorem dL_safeStart_0 : decode cL_safeStart 0 = .ok (.aload_n 3, 1) := by decide +kernel
theorem dL_safeStart_1 : decode cL_safeStart 1 = .ok (.iconst 0, 1) := by decide +kernel
theorem dL_safeStart_2 : decode cL_safeStart 2 = .ok (.aload_n 0, 1) := by decide +kernel
theorem dL_safeStart_3 : decode cL_safeStart 3 = .ok (.iload_n 1, 1) := by decide +kernel
theorem dL_safeStart_4 : decode cL_safeStart 4 = .ok (.iload_n 2, 1) := by decide +kernel
theorem dL_safeStart_5 : decode cL_safeStart 5 = .ok (.invokevirtual 95, 3) := by decide +kernel
theorem dL_safeStart_8 : decode cL_safeStart 8 = .ok (.i2l, 1) := by decide +kernel
theorem dL_safeStart_9 : decode cL_safeStart 9 = .ok (.lastore, 1) := by decide +kernel
theorem dL_safeStart_10 : decode cL_safeStart 10 = .ok (.goto 11, 3) := by decide +kernel
theorem dL_safeStart_21 : decode cL_safeStart 21 = .ok (.iconst 0, 1) := by decide +kernel
theorem dL_safeStart_22 : decode cL_safeStart 22 = .ok (.ireturn, 1) := by decide +kernel
theorem dL_safeStart_13 : decode cL_safeStart 13 = .ok (.astore 4, 2) := by decide +kernel
theorem dL_safeStart_15 : decode cL_safeStart 15 = .ok (.iconst 1, 1) := by decide +kernel
theorem dL_safeStart_16 : decode cL_safeStart 16 = .ok (.ireturn, 1) := by decide +kernel
theorem dL_safeStart_17 : decode cL_safeStart 17 = .ok (.astore 4, 2) := by decide +kernel
theorem dL_safeStart_19 : decode cL_safeStart 19 = .ok (.iconst 2, 1) := by decide +kernel
theorem dL_safeStart_20 : decode cL_safeStart 20 = .ok (.ireturn, 1) := by decide +kernel
theorem dL_safeAmplitude_0 : decode cL_safeAmplitude 0 = .ok (.aload_n 2, 1) := by decide +kernel
theorem dL_safeAmplitude_1 : decode cL_safeAmplitude 1 = .ok (.iconst 0, 1) := by decide +kernel
theorem dL_safeAmplitude_2 : decode cL_safeAmplitude 2 = .ok (.aload_n 0, 1) := by decide +kernel
theorem dL_safeAmplitude_3 : decode cL_safeAmplitude 3 = .ok (.iload_n 1, 1) := by decide +kernel
theorem dL_safeAmplitude_4 : decode cL_safeAmplitude 4 = .ok (.invokevirtual 98, 3) := by decide +kernel
theorem dL_safeAmplitude_7 : decode cL_safeAmplitude 7 = .ok (.i2l, 1) := by decide +kernel
theorem dL_safeAmplitude_8 : decode cL_safeAmplitude 8 = .ok (.lastore, 1) := by decide +kernel
theorem dL_safeAmplitude_9 : decode cL_safeAmplitude 9 = .ok (.goto 9, 3) := by decide +kernel
theorem dL_safeAmplitude_18 : decode cL_safeAmplitude 18 = .ok (.iconst 0, 1) := by decide +kernel
theorem dL_safeAmplitude_19 : decode cL_safeAmplitude 19 = .ok (.ireturn, 1) := by decide +kernel
theorem dL_safeAmplitude_12 : decode cL_safeAmplitude 12 = .ok (.astore_n 3, 1) := by decide +kernel
theorem dL_safeAmplitude_13 : decode cL_safeAmplitude 13 = .ok (.iconst 1, 1) := by decide +kernel
theorem dL_safeAmplitude_14 : decode cL_safeAmplitude 14 = .ok (.ireturn, 1) := by decide +kernel
theorem dL_safeAmplitude_15 : decode cL_safeAmplitude 15 = .ok (.astore_n 3, 1) := by decide +kernel
theorem dL_safeAmplitude_16 : decode cL_safeAmplitude 16 = .ok (.iconst 2, 1) := by decide +kernel
theorem dL_safeAmplitude_17 : decode cL_safeAmplitude 17 = .ok (.ireturn, 1) := by decide +kernel
theorem dL_strikes_0 : decode cL_strikes 0 = .ok (.aload 4, 2) := by decide +kernel
theorem dL_strikes_2 : decode cL_strikes 2 = .ok (.iconst 0, 1) := by decide +kernel
theorem dL_strikes_3 : decode cL_strikes 3 = .ok (.aload_n 0, 1) := by decide +kernel
theorem dL_strikes_4 : decode cL_strikes 4 = .ok (.iload_n 1, 1) := by decide +kernel
theorem dL_strikes_5 : decode cL_strikes 5 = .ok (.iload_n 2, 1) := by decide +kernel
theorem dL_strikes_6 : decode cL_strikes 6 = .ok (.iload_n 3, 1) := by decide +kernel
theorem dL_strikes_7 : decode cL_strikes 7 = .ok (.invokevirtual 101, 3) := by decide +kernel
theorem dL_strikes_10 : decode cL_strikes 10 = .ok (.i2l, 1) := by decide +kernel
theorem dL_strikes_11 : decode cL_strikes 11 = .ok (.lastore, 1) := by decide +kernel
theorem dL_strikes_12 : decode cL_strikes 12 = .ok (.goto 11, 3) := by decide +kernel
theorem dL_strikes_23 : decode cL_strikes 23 = .ok (.iconst 0, 1) := by decide +kernel
theorem dL_strikes_24 : decode cL_strikes 24 = .ok (.ireturn, 1) := by decide +kernel
theorem dL_strikes_15 : decode cL_strikes 15 = .ok (.astore 5, 2) := by decide +kernel
theorem dL_strikes_17 : decode cL_strikes 17 = .ok (.iconst 1, 1) := by decide +kernel
theorem dL_strikes_18 : decode cL_strikes 18 = .ok (.ireturn, 1) := by decide +kernel
theorem dL_strikes_19 : decode cL_strikes 19 = .ok (.astore 5, 2) := by decide +kernel
theorem dL_strikes_21 : decode cL_strikes 21 = .ok (.iconst 2, 1) := by decide +kernel
theorem dL_strikes_22 : decode cL_strikes 22 = .ok (.ireturn, 1) := by decide +kernel
theorem dL_strikeTogether_0 : decode cL_strikeTogether 0 = .ok (.aload_n 3, 1) := by decide +kernel
theorem dL_strikeTogether_1 : decode cL_strikeTogether 1 = .ok (.iconst 0, 1) := by decide +kernel
theorem dL_strikeTogether_2 : decode cL_strikeTogether 2 = .ok (.aload_n 0, 1) := by decide +kernel
theorem dL_strikeTogether_3 : decode cL_strikeTogether 3 = .ok (.iload_n 1, 1) := by decide +kernel
theorem dL_strikeTogether_4 : decode cL_strikeTogether 4 = .ok (.iload_n 2, 1) := by decide +kernel
theorem dL_strikeTogether_5 : decode cL_strikeTogether 5 = .ok (.invokevirtual 104, 3) := by decide +kernel
theorem dL_strikeTogether_8 : decode cL_strikeTogether 8 = .ok (.i2l, 1) := by decide +kernel
theorem dL_strikeTogether_9 : decode cL_strikeTogether 9 = .ok (.lastore, 1) := by decide +kernel
theorem dL_strikeTogether_10 : decode cL_strikeTogether 10 = .ok (.goto 11, 3) := by decide +kernel
theorem dL_strikeTogether_21 : decode cL_strikeTogether 21 = .ok (.iconst 0, 1) := by decide +kernel
theorem dL_strikeTogether_22 : decode cL_strikeTogether 22 = .ok (.ireturn, 1) := by decide +kernel
theorem dL_strikeTogether_13 : decode cL_strikeTogether 13 = .ok (.astore 4, 2) := by decide +kernel
theorem dL_strikeTogether_15 : decode cL_strikeTogether 15 = .ok (.iconst 1, 1) := by decide +kernel
theorem dL_strikeTogether_16 : decode cL_strikeTogether 16 = .ok (.ireturn, 1) := by decide +kernel
theorem dL_strikeTogether_17 : decode cL_strikeTogether 17 = .ok (.astore 4, 2) := by decide +kernel
theorem dL_strikeTogether_19 : decode cL_strikeTogether 19 = .ok (.iconst 2, 1) := by decide +kernel
theorem dL_strikeTogether_20 : decode cL_strikeTogether 20 = .ok (.ireturn, 1) := by decide +kernel
theorem dL_setChime_0 : decode cL_setChime 0 = .ok (.aload 4, 2) := by decide +kernel
theorem dL_setChime_2 : decode cL_setChime 2 = .ok (.iconst 0, 1) := by decide +kernel
theorem dL_setChime_3 : decode cL_setChime 3 = .ok (.aload_n 0, 1) := by decide +kernel
theorem dL_setChime_4 : decode cL_setChime 4 = .ok (.iload_n 1, 1) := by decide +kernel
theorem dL_setChime_5 : decode cL_setChime 5 = .ok (.iload_n 2, 1) := by decide +kernel
theorem dL_setChime_6 : decode cL_setChime 6 = .ok (.iload_n 3, 1) := by decide +kernel
theorem dL_setChime_7 : decode cL_setChime 7 = .ok (.invokevirtual 107, 3) := by decide +kernel
theorem dL_setChime_10 : decode cL_setChime 10 = .ok (.i2l, 1) := by decide +kernel
theorem dL_setChime_11 : decode cL_setChime 11 = .ok (.lastore, 1) := by decide +kernel
theorem dL_setChime_12 : decode cL_setChime 12 = .ok (.goto 11, 3) := by decide +kernel
theorem dL_setChime_23 : decode cL_setChime 23 = .ok (.iconst 0, 1) := by decide +kernel
theorem dL_setChime_24 : decode cL_setChime 24 = .ok (.ireturn, 1) := by decide +kernel
theorem dL_setChime_15 : decode cL_setChime 15 = .ok (.astore 5, 2) := by decide +kernel
theorem dL_setChime_17 : decode cL_setChime 17 = .ok (.iconst 1, 1) := by decide +kernel
theorem dL_setChime_18 : decode cL_setChime 18 = .ok (.ireturn, 1) := by decide +kernel
theorem dL_setChime_19 : decode cL_setChime 19 = .ok (.astore 5, 2) := by decide +kernel
theorem dL_setChime_21 : decode cL_setChime 21 = .ok (.iconst 2, 1) := by decide +kernel
theorem dL_setChime_22 : decode cL_setChime 22 = .ok (.ireturn, 1) := by decide +kernel
theorem dL_clearChime_0 : decode cL_clearChime 0 = .ok (.aload_n 2, 1) := by decide +kernel
theorem dL_clearChime_1 : decode cL_clearChime 1 = .ok (.iconst 0, 1) := by decide +kernel
theorem dL_clearChime_2 : decode cL_clearChime 2 = .ok (.aload_n 0, 1) := by decide +kernel
theorem dL_clearChime_3 : decode cL_clearChime 3 = .ok (.iload_n 1, 1) := by decide +kernel
theorem dL_clearChime_4 : decode cL_clearChime 4 = .ok (.invokevirtual 110, 3) := by decide +kernel
theorem dL_clearChime_7 : decode cL_clearChime 7 = .ok (.i2l, 1) := by decide +kernel
theorem dL_clearChime_8 : decode cL_clearChime 8 = .ok (.lastore, 1) := by decide +kernel
theorem dL_clearChime_9 : decode cL_clearChime 9 = .ok (.goto 9, 3) := by decide +kernel
theorem dL_clearChime_18 : decode cL_clearChime 18 = .ok (.iconst 0, 1) := by decide +kernel
theorem dL_clearChime_19 : decode cL_clearChime 19 = .ok (.ireturn, 1) := by decide +kernel
theorem dL_clearChime_12 : decode cL_clearChime 12 = .ok (.astore_n 3, 1) := by decide +kernel
theorem dL_clearChime_13 : decode cL_clearChime 13 = .ok (.iconst 1, 1) := by decide +kernel
theorem dL_clearChime_14 : decode cL_clearChime 14 = .ok (.ireturn, 1) := by decide +kernel
theorem dL_clearChime_15 : decode cL_clearChime 15 = .ok (.astore_n 3, 1) := by decide +kernel
theorem dL_clearChime_16 : decode cL_clearChime 16 = .ok (.iconst 2, 1) := by decide +kernel
theorem dL_clearChime_17 : decode cL_clearChime 17 = .ok (.ireturn, 1) := by decide +kernel
theorem dL_isQuiet_0 : decode cL_isQuiet 0 = .ok (.aload_n 2, 1) := by decide +kernel
theorem dL_isQuiet_1 : decode cL_isQuiet 1 = .ok (.iconst 0, 1) := by decide +kernel
theorem dL_isQuiet_2 : decode cL_isQuiet 2 = .ok (.aload_n 0, 1) := by decide +kernel
theorem dL_isQuiet_3 : decode cL_isQuiet 3 = .ok (.iload_n 1, 1) := by decide +kernel
theorem dL_isQuiet_4 : decode cL_isQuiet 4 = .ok (.invokevirtual 113, 3) := by decide +kernel
theorem dL_isQuiet_7 : decode cL_isQuiet 7 = .ok (.ifCond .eq 7, 3) := by decide +kernel
theorem dL_isQuiet_10 : decode cL_isQuiet 10 = .ok (.lconst 1, 1) := by decide +kernel
theorem dL_isQuiet_11 : decode cL_isQuiet 11 = .ok (.goto 4, 3) := by decide +kernel
theorem dL_isQuiet_15 : decode cL_isQuiet 15 = .ok (.lastore, 1) := by decide +kernel
theorem dL_isQuiet_16 : decode cL_isQuiet 16 = .ok (.goto 9, 3) := by decide +kernel
theorem dL_isQuiet_25 : decode cL_isQuiet 25 = .ok (.iconst 0, 1) := by decide +kernel
theorem dL_isQuiet_26 : decode cL_isQuiet 26 = .ok (.ireturn, 1) := by decide +kernel
theorem dL_isQuiet_14 : decode cL_isQuiet 14 = .ok (.lconst 0, 1) := by decide +kernel
theorem dL_isQuiet_19 : decode cL_isQuiet 19 = .ok (.astore_n 3, 1) := by decide +kernel
theorem dL_isQuiet_20 : decode cL_isQuiet 20 = .ok (.iconst 1, 1) := by decide +kernel
theorem dL_isQuiet_21 : decode cL_isQuiet 21 = .ok (.ireturn, 1) := by decide +kernel
theorem dL_isQuiet_22 : decode cL_isQuiet 22 = .ok (.astore_n 3, 1) := by decide +kernel
theorem dL_isQuiet_23 : decode cL_isQuiet 23 = .ok (.iconst 2, 1) := by decide +kernel
theorem dL_isQuiet_24 : decode cL_isQuiet 24 = .ok (.ireturn, 1) := by decide +kernel
theorem dL_quietMinutes_0 : decode cL_quietMinutes 0 = .ok (.aload_n 1, 1) := by decide +kernel
theorem dL_quietMinutes_1 : decode cL_quietMinutes 1 = .ok (.iconst 0, 1) := by decide +kernel
theorem dL_quietMinutes_2 : decode cL_quietMinutes 2 = .ok (.aload_n 0, 1) := by decide +kernel
theorem dL_quietMinutes_3 : decode cL_quietMinutes 3 = .ok (.invokevirtual 117, 3) := by decide +kernel
theorem dL_quietMinutes_6 : decode cL_quietMinutes 6 = .ok (.i2l, 1) := by decide +kernel
theorem dL_quietMinutes_7 : decode cL_quietMinutes 7 = .ok (.lastore, 1) := by decide +kernel
theorem dL_quietMinutes_8 : decode cL_quietMinutes 8 = .ok (.goto 6, 3) := by decide +kernel
theorem dL_quietMinutes_14 : decode cL_quietMinutes 14 = .ok (.iconst 0, 1) := by decide +kernel
theorem dL_quietMinutes_15 : decode cL_quietMinutes 15 = .ok (.ireturn, 1) := by decide +kernel
theorem dL_quietMinutes_11 : decode cL_quietMinutes 11 = .ok (.astore_n 2, 1) := by decide +kernel
theorem dL_quietMinutes_12 : decode cL_quietMinutes 12 = .ok (.iconst 1, 1) := by decide +kernel
theorem dL_quietMinutes_13 : decode cL_quietMinutes 13 = .ok (.ireturn, 1) := by decide +kernel
theorem dL_longestLoud_0 : decode cL_longestLoud 0 = .ok (.aload_n 1, 1) := by decide +kernel
theorem dL_longestLoud_1 : decode cL_longestLoud 1 = .ok (.iconst 0, 1) := by decide +kernel
theorem dL_longestLoud_2 : decode cL_longestLoud 2 = .ok (.aload_n 0, 1) := by decide +kernel
theorem dL_longestLoud_3 : decode cL_longestLoud 3 = .ok (.invokevirtual 120, 3) := by decide +kernel
theorem dL_longestLoud_6 : decode cL_longestLoud 6 = .ok (.i2l, 1) := by decide +kernel
theorem dL_longestLoud_7 : decode cL_longestLoud 7 = .ok (.lastore, 1) := by decide +kernel
theorem dL_longestLoud_8 : decode cL_longestLoud 8 = .ok (.goto 6, 3) := by decide +kernel
theorem dL_longestLoud_14 : decode cL_longestLoud 14 = .ok (.iconst 0, 1) := by decide +kernel
theorem dL_longestLoud_15 : decode cL_longestLoud 15 = .ok (.ireturn, 1) := by decide +kernel
theorem dL_longestLoud_11 : decode cL_longestLoud 11 = .ok (.astore_n 2, 1) := by decide +kernel
theorem dL_longestLoud_12 : decode cL_longestLoud 12 = .ok (.iconst 1, 1) := by decide +kernel
theorem dL_longestLoud_13 : decode cL_longestLoud 13 = .ok (.ireturn, 1) := by decide +kernel
theorem dL_soundsAt_0 : decode cL_soundsAt 0 = .ok (.aload_n 2, 1) := by decide +kernel
theorem dL_soundsAt_1 : decode cL_soundsAt 1 = .ok (.iconst 0, 1) := by decide +kernel
theorem dL_soundsAt_2 : decode cL_soundsAt 2 = .ok (.aload_n 0, 1) := by decide +kernel
theorem dL_soundsAt_3 : decode cL_soundsAt 3 = .ok (.iload_n 1, 1) := by decide +kernel
theorem dL_soundsAt_4 : decode cL_soundsAt 4 = .ok (.invokevirtual 123, 3) := by decide +kernel
theorem dL_soundsAt_7 : decode cL_soundsAt 7 = .ok (.i2l, 1) := by decide +kernel
theorem dL_soundsAt_8 : decode cL_soundsAt 8 = .ok (.lastore, 1) := by decide +kernel
theorem dL_soundsAt_9 : decode cL_soundsAt 9 = .ok (.goto 9, 3) := by decide +kernel
theorem dL_soundsAt_18 : decode cL_soundsAt 18 = .ok (.iconst 0, 1) := by decide +kernel
theorem dL_soundsAt_19 : decode cL_soundsAt 19 = .ok (.ireturn, 1) := by decide +kernel
theorem dL_soundsAt_12 : decode cL_soundsAt 12 = .ok (.astore_n 3, 1) := by decide +kernel
theorem dL_soundsAt_13 : decode cL_soundsAt 13 = .ok (.iconst 1, 1) := by decide +kernel
theorem dL_soundsAt_14 : decode cL_soundsAt 14 = .ok (.ireturn, 1) := by decide +kernel
theorem dL_soundsAt_15 : decode cL_soundsAt 15 = .ok (.astore_n 3, 1) := by decide +kernel
theorem dL_soundsAt_16 : decode cL_soundsAt 16 = .ok (.iconst 2, 1) := by decide +kernel
theorem dL_soundsAt_17 : decode cL_soundsAt 17 = .ok (.ireturn, 1) := by decide +kernel
theorem dL_soundsPerDay_0 : decode cL_soundsPerDay 0 = .ok (.aload_n 2, 1) := by decide +kernel
theorem dL_soundsPerDay_1 : decode cL_soundsPerDay 1 = .ok (.iconst 0, 1) := by decide +kernel
theorem dL_soundsPerDay_2 : decode cL_soundsPerDay 2 = .ok (.aload_n 0, 1) := by decide +kernel
theorem dL_soundsPerDay_3 : decode cL_soundsPerDay 3 = .ok (.iload_n 1, 1) := by decide +kernel
theorem dL_soundsPerDay_4 : decode cL_soundsPerDay 4 = .ok (.invokevirtual 126, 3) := by decide +kernel
theorem dL_soundsPerDay_7 : decode cL_soundsPerDay 7 = .ok (.i2l, 1) := by decide +kernel
theorem dL_soundsPerDay_8 : decode cL_soundsPerDay 8 = .ok (.lastore, 1) := by decide +kernel
theorem dL_soundsPerDay_9 : decode cL_soundsPerDay 9 = .ok (.goto 9, 3) := by decide +kernel
theorem dL_soundsPerDay_18 : decode cL_soundsPerDay 18 = .ok (.iconst 0, 1) := by decide +kernel
theorem dL_soundsPerDay_19 : decode cL_soundsPerDay 19 = .ok (.ireturn, 1) := by decide +kernel
theorem dL_soundsPerDay_12 : decode cL_soundsPerDay 12 = .ok (.astore_n 3, 1) := by decide +kernel
theorem dL_soundsPerDay_13 : decode cL_soundsPerDay 13 = .ok (.iconst 1, 1) := by decide +kernel
theorem dL_soundsPerDay_14 : decode cL_soundsPerDay 14 = .ok (.ireturn, 1) := by decide +kernel
theorem dL_soundsPerDay_15 : decode cL_soundsPerDay 15 = .ok (.astore_n 3, 1) := by decide +kernel
theorem dL_soundsPerDay_16 : decode cL_soundsPerDay 16 = .ok (.iconst 2, 1) := by decide +kernel
theorem dL_soundsPerDay_17 : decode cL_soundsPerDay 17 = .ok (.ireturn, 1) := by decide +kernel
theorem dL_nextSound_0 : decode cL_nextSound 0 = .ok (.aload_n 2, 1) := by decide +kernel
theorem dL_nextSound_1 : decode cL_nextSound 1 = .ok (.iconst 0, 1) := by decide +kernel
theorem dL_nextSound_2 : decode cL_nextSound 2 = .ok (.aload_n 0, 1) := by decide +kernel
theorem dL_nextSound_3 : decode cL_nextSound 3 = .ok (.iload_n 1, 1) := by decide +kernel
theorem dL_nextSound_4 : decode cL_nextSound 4 = .ok (.invokevirtual 129, 3) := by decide +kernel
theorem dL_nextSound_7 : decode cL_nextSound 7 = .ok (.i2l, 1) := by decide +kernel
theorem dL_nextSound_8 : decode cL_nextSound 8 = .ok (.lastore, 1) := by decide +kernel
theorem dL_nextSound_9 : decode cL_nextSound 9 = .ok (.goto 9, 3) := by decide +kernel
theorem dL_nextSound_18 : decode cL_nextSound 18 = .ok (.iconst 0, 1) := by decide +kernel
theorem dL_nextSound_19 : decode cL_nextSound 19 = .ok (.ireturn, 1) := by decide +kernel
theorem dL_nextSound_12 : decode cL_nextSound 12 = .ok (.astore_n 3, 1) := by decide +kernel
theorem dL_nextSound_13 : decode cL_nextSound 13 = .ok (.iconst 1, 1) := by decide +kernel
theorem dL_nextSound_14 : decode cL_nextSound 14 = .ok (.ireturn, 1) := by decide +kernel
theorem dL_nextSound_15 : decode cL_nextSound 15 = .ok (.astore_n 3, 1) := by decide +kernel
theorem dL_nextSound_16 : decode cL_nextSound 16 = .ok (.iconst 2, 1) := by decide +kernel
theorem dL_nextSound_17 : decode cL_nextSound 17 = .ok (.ireturn, 1) := by decide +kernel
theorem dL_busiestMinute_0 : decode cL_busiestMinute 0 = .ok (.aload_n 1, 1) := by decide +kernel
theorem dL_busiestMinute_1 : decode cL_busiestMinute 1 = .ok (.iconst 0, 1) := by decide +kernel
theorem dL_busiestMinute_2 : decode cL_busiestMinute 2 = .ok (.aload_n 0, 1) := by decide +kernel
theorem dL_busiestMinute_3 : decode cL_busiestMinute 3 = .ok (.invokevirtual 132, 3) := by decide +kernel
theorem dL_busiestMinute_6 : decode cL_busiestMinute 6 = .ok (.i2l, 1) := by decide +kernel
theorem dL_busiestMinute_7 : decode cL_busiestMinute 7 = .ok (.lastore, 1) := by decide +kernel
theorem dL_busiestMinute_8 : decode cL_busiestMinute 8 = .ok (.goto 6, 3) := by decide +kernel
theorem dL_busiestMinute_14 : decode cL_busiestMinute 14 = .ok (.iconst 0, 1) := by decide +kernel
theorem dL_busiestMinute_15 : decode cL_busiestMinute 15 = .ok (.ireturn, 1) := by decide +kernel
theorem dL_busiestMinute_11 : decode cL_busiestMinute 11 = .ok (.astore_n 2, 1) := by decide +kernel
theorem dL_busiestMinute_12 : decode cL_busiestMinute 12 = .ok (.iconst 1, 1) := by decide +kernel
theorem dL_busiestMinute_13 : decode cL_busiestMinute 13 = .ok (.ireturn, 1) := by decide +kernel
theorem dL_soundTogether_0 : decode cL_soundTogether 0 = .ok (.aload_n 3, 1) := by decide +kernel
theorem dL_soundTogether_1 : decode cL_soundTogether 1 = .ok (.iconst 0, 1) := by decide +kernel
theorem dL_soundTogether_2 : decode cL_soundTogether 2 = .ok (.aload_n 0, 1) := by decide +kernel
theorem dL_soundTogether_3 : decode cL_soundTogether 3 = .ok (.iload_n 1, 1) := by decide +kernel
theorem dL_soundTogether_4 : decode cL_soundTogether 4 = .ok (.iload_n 2, 1) := by decide +kernel
theorem dL_soundTogether_5 : decode cL_soundTogether 5 = .ok (.invokevirtual 135, 3) := by decide +kernel
theorem dL_soundTogether_8 : decode cL_soundTogether 8 = .ok (.i2l, 1) := by decide +kernel
theorem dL_soundTogether_9 : decode cL_soundTogether 9 = .ok (.lastore, 1) := by decide +kernel
theorem dL_soundTogether_10 : decode cL_soundTogether 10 = .ok (.goto 11, 3) := by decide +kernel
theorem dL_soundTogether_21 : decode cL_soundTogether 21 = .ok (.iconst 0, 1) := by decide +kernel
theorem dL_soundTogether_22 : decode cL_soundTogether 22 = .ok (.ireturn, 1) := by decide +kernel
theorem dL_soundTogether_13 : decode cL_soundTogether 13 = .ok (.astore 4, 2) := by decide +kernel
theorem dL_soundTogether_15 : decode cL_soundTogether 15 = .ok (.iconst 1, 1) := by decide +kernel
theorem dL_soundTogether_16 : decode cL_soundTogether 16 = .ok (.ireturn, 1) := by decide +kernel
theorem dL_soundTogether_17 : decode cL_soundTogether 17 = .ok (.astore 4, 2) := by decide +kernel
theorem dL_soundTogether_19 : decode cL_soundTogether 19 = .ok (.iconst 2, 1) := by decide +kernel
theorem dL_soundTogether_20 : decode cL_soundTogether 20 = .ok (.ireturn, 1) := by decide +kernel
theorem dL_leastDelay_0 : decode cL_leastDelay 0 = .ok (.aload_n 2, 1) := by decide +kernel
theorem dL_leastDelay_1 : decode cL_leastDelay 1 = .ok (.iconst 0, 1) := by decide +kernel
theorem dL_leastDelay_2 : decode cL_leastDelay 2 = .ok (.aload_n 0, 1) := by decide +kernel
theorem dL_leastDelay_3 : decode cL_leastDelay 3 = .ok (.iload_n 1, 1) := by decide +kernel
theorem dL_leastDelay_4 : decode cL_leastDelay 4 = .ok (.invokevirtual 138, 3) := by decide +kernel
theorem dL_leastDelay_7 : decode cL_leastDelay 7 = .ok (.i2l, 1) := by decide +kernel
theorem dL_leastDelay_8 : decode cL_leastDelay 8 = .ok (.lastore, 1) := by decide +kernel
theorem dL_leastDelay_9 : decode cL_leastDelay 9 = .ok (.goto 9, 3) := by decide +kernel
theorem dL_leastDelay_18 : decode cL_leastDelay 18 = .ok (.iconst 0, 1) := by decide +kernel
theorem dL_leastDelay_19 : decode cL_leastDelay 19 = .ok (.ireturn, 1) := by decide +kernel
theorem dL_leastDelay_12 : decode cL_leastDelay 12 = .ok (.astore_n 3, 1) := by decide +kernel
theorem dL_leastDelay_13 : decode cL_leastDelay 13 = .ok (.iconst 1, 1) := by decide +kernel
theorem dL_leastDelay_14 : decode cL_leastDelay 14 = .ok (.ireturn, 1) := by decide +kernel
theorem dL_leastDelay_15 : decode cL_leastDelay 15 = .ok (.astore_n 3, 1) := by decide +kernel
theorem dL_leastDelay_16 : decode cL_leastDelay 16 = .ok (.iconst 2, 1) := by decide +kernel
theorem dL_leastDelay_17 : decode cL_leastDelay 17 = .ok (.ireturn, 1) := by decide +kernel
theorem dL_ropeLength_0 : decode cL_ropeLength 0 = .ok (.aload_n 2, 1) := by decide +kernel
theorem dL_ropeLength_1 : decode cL_ropeLength 1 = .ok (.iconst 0, 1) := by decide +kernel
theorem dL_ropeLength_2 : decode cL_ropeLength 2 = .ok (.aload_n 0, 1) := by decide +kernel
theorem dL_ropeLength_3 : decode cL_ropeLength 3 = .ok (.iload_n 1, 1) := by decide +kernel
theorem dL_ropeLength_4 : decode cL_ropeLength 4 = .ok (.invokevirtual 141, 3) := by decide +kernel
theorem dL_ropeLength_7 : decode cL_ropeLength 7 = .ok (.i2l, 1) := by decide +kernel
theorem dL_ropeLength_8 : decode cL_ropeLength 8 = .ok (.lastore, 1) := by decide +kernel
theorem dL_ropeLength_9 : decode cL_ropeLength 9 = .ok (.goto 9, 3) := by decide +kernel
theorem dL_ropeLength_18 : decode cL_ropeLength 18 = .ok (.iconst 0, 1) := by decide +kernel
theorem dL_ropeLength_19 : decode cL_ropeLength 19 = .ok (.ireturn, 1) := by decide +kernel
theorem dL_ropeLength_12 : decode cL_ropeLength 12 = .ok (.astore_n 3, 1) := by decide +kernel
theorem dL_ropeLength_13 : decode cL_ropeLength 13 = .ok (.iconst 1, 1) := by decide +kernel
theorem dL_ropeLength_14 : decode cL_ropeLength 14 = .ok (.ireturn, 1) := by decide +kernel
theorem dL_ropeLength_15 : decode cL_ropeLength 15 = .ok (.astore_n 3, 1) := by decide +kernel
theorem dL_ropeLength_16 : decode cL_ropeLength 16 = .ok (.iconst 2, 1) := by decide +kernel
theorem dL_ropeLength_17 : decode cL_ropeLength 17 = .ok (.ireturn, 1) := by decide +kernel
theorem dL_fewestPieces_0 : decode cL_fewestPieces 0 = .ok (.aload_n 1, 1) := by decide +kernel
theorem dL_fewestPieces_1 : decode cL_fewestPieces 1 = .ok (.iconst 0, 1) := by decide +kernel
theorem dL_fewestPieces_2 : decode cL_fewestPieces 2 = .ok (.aload_n 0, 1) := by decide +kernel
theorem dL_fewestPieces_3 : decode cL_fewestPieces 3 = .ok (.invokevirtual 144, 3) := by decide +kernel
theorem dL_fewestPieces_6 : decode cL_fewestPieces 6 = .ok (.i2l, 1) := by decide +kernel
theorem dL_fewestPieces_7 : decode cL_fewestPieces 7 = .ok (.lastore, 1) := by decide +kernel
theorem dL_fewestPieces_8 : decode cL_fewestPieces 8 = .ok (.goto 6, 3) := by decide +kernel
theorem dL_fewestPieces_14 : decode cL_fewestPieces 14 = .ok (.iconst 0, 1) := by decide +kernel
theorem dL_fewestPieces_15 : decode cL_fewestPieces 15 = .ok (.ireturn, 1) := by decide +kernel
theorem dL_fewestPieces_11 : decode cL_fewestPieces 11 = .ok (.astore_n 2, 1) := by decide +kernel
theorem dL_fewestPieces_12 : decode cL_fewestPieces 12 = .ok (.iconst 1, 1) := by decide +kernel
theorem dL_fewestPieces_13 : decode cL_fewestPieces 13 = .ok (.ireturn, 1) := by decide +kernel
theorem dL_pieceOf_0 : decode cL_pieceOf 0 = .ok (.aload_n 2, 1) := by decide +kernel
theorem dL_pieceOf_1 : decode cL_pieceOf 1 = .ok (.iconst 0, 1) := by decide +kernel
theorem dL_pieceOf_2 : decode cL_pieceOf 2 = .ok (.aload_n 0, 1) := by decide +kernel
theorem dL_pieceOf_3 : decode cL_pieceOf 3 = .ok (.iload_n 1, 1) := by decide +kernel
theorem dL_pieceOf_4 : decode cL_pieceOf 4 = .ok (.invokevirtual 147, 3) := by decide +kernel
theorem dL_pieceOf_7 : decode cL_pieceOf 7 = .ok (.i2l, 1) := by decide +kernel
theorem dL_pieceOf_8 : decode cL_pieceOf 8 = .ok (.lastore, 1) := by decide +kernel
theorem dL_pieceOf_9 : decode cL_pieceOf 9 = .ok (.goto 9, 3) := by decide +kernel
theorem dL_pieceOf_18 : decode cL_pieceOf 18 = .ok (.iconst 0, 1) := by decide +kernel
theorem dL_pieceOf_19 : decode cL_pieceOf 19 = .ok (.ireturn, 1) := by decide +kernel
theorem dL_pieceOf_12 : decode cL_pieceOf 12 = .ok (.astore_n 3, 1) := by decide +kernel
theorem dL_pieceOf_13 : decode cL_pieceOf 13 = .ok (.iconst 1, 1) := by decide +kernel
theorem dL_pieceOf_14 : decode cL_pieceOf 14 = .ok (.ireturn, 1) := by decide +kernel
theorem dL_pieceOf_15 : decode cL_pieceOf 15 = .ok (.astore_n 3, 1) := by decide +kernel
theorem dL_pieceOf_16 : decode cL_pieceOf 16 = .ok (.iconst 2, 1) := by decide +kernel
theorem dL_pieceOf_17 : decode cL_pieceOf 17 = .ok (.ireturn, 1) := by decide +kernel
theorem dL_waste_0 : decode cL_waste 0 = .ok (.aload_n 1, 1) := by decide +kernel
theorem dL_waste_1 : decode cL_waste 1 = .ok (.iconst 0, 1) := by decide +kernel
theorem dL_waste_2 : decode cL_waste 2 = .ok (.aload_n 0, 1) := by decide +kernel
theorem dL_waste_3 : decode cL_waste 3 = .ok (.invokevirtual 150, 3) := by decide +kernel
theorem dL_waste_6 : decode cL_waste 6 = .ok (.i2l, 1) := by decide +kernel
theorem dL_waste_7 : decode cL_waste 7 = .ok (.lastore, 1) := by decide +kernel
theorem dL_waste_8 : decode cL_waste 8 = .ok (.goto 6, 3) := by decide +kernel
theorem dL_waste_14 : decode cL_waste 14 = .ok (.iconst 0, 1) := by decide +kernel
theorem dL_waste_15 : decode cL_waste 15 = .ok (.ireturn, 1) := by decide +kernel
theorem dL_waste_11 : decode cL_waste 11 = .ok (.astore_n 2, 1) := by decide +kernel
theorem dL_waste_12 : decode cL_waste 12 = .ok (.iconst 1, 1) := by decide +kernel
theorem dL_waste_13 : decode cL_waste 13 = .ok (.ireturn, 1) := by decide +kernel
theorem dL_extraPiece_0 : decode cL_extraPiece 0 = .ok (.aload_n 1, 1) := by decide +kernel
theorem dL_extraPiece_1 : decode cL_extraPiece 1 = .ok (.iconst 0, 1) := by decide +kernel
theorem dL_extraPiece_2 : decode cL_extraPiece 2 = .ok (.aload_n 0, 1) := by decide +kernel
theorem dL_extraPiece_3 : decode cL_extraPiece 3 = .ok (.invokevirtual 153, 3) := by decide +kernel
theorem dL_extraPiece_6 : decode cL_extraPiece 6 = .ok (.i2l, 1) := by decide +kernel
theorem dL_extraPiece_7 : decode cL_extraPiece 7 = .ok (.lastore, 1) := by decide +kernel
theorem dL_extraPiece_8 : decode cL_extraPiece 8 = .ok (.goto 6, 3) := by decide +kernel
theorem dL_extraPiece_14 : decode cL_extraPiece 14 = .ok (.iconst 0, 1) := by decide +kernel
theorem dL_extraPiece_15 : decode cL_extraPiece 15 = .ok (.ireturn, 1) := by decide +kernel
theorem dL_extraPiece_11 : decode cL_extraPiece 11 = .ok (.astore_n 2, 1) := by decide +kernel
theorem dL_extraPiece_12 : decode cL_extraPiece 12 = .ok (.iconst 1, 1) := by decide +kernel
theorem dL_extraPiece_13 : decode cL_extraPiece 13 = .ok (.ireturn, 1) := by decide +kernel
theorem dL_undo_0 : decode cL_undo 0 = .ok (.aload_n 1, 1) := by decide +kernel
theorem dL_undo_1 : decode cL_undo 1 = .ok (.iconst 0, 1) := by decide +kernel
theorem dL_undo_2 : decode cL_undo 2 = .ok (.aload_n 0, 1) := by decide +kernel
theorem dL_undo_3 : decode cL_undo 3 = .ok (.invokevirtual 156, 3) := by decide +kernel
theorem dL_undo_6 : decode cL_undo 6 = .ok (.i2l, 1) := by decide +kernel
theorem dL_undo_7 : decode cL_undo 7 = .ok (.lastore, 1) := by decide +kernel
theorem dL_undo_8 : decode cL_undo 8 = .ok (.goto 6, 3) := by decide +kernel
theorem dL_undo_14 : decode cL_undo 14 = .ok (.iconst 0, 1) := by decide +kernel
theorem dL_undo_15 : decode cL_undo 15 = .ok (.ireturn, 1) := by decide +kernel
theorem dL_undo_11 : decode cL_undo 11 = .ok (.astore_n 2, 1) := by decide +kernel
theorem dL_undo_12 : decode cL_undo 12 = .ok (.iconst 1, 1) := by decide +kernel
theorem dL_undo_13 : decode cL_undo 13 = .ok (.ireturn, 1) := by decide +kernel
theorem w_append {G : Gx} {mm mm1 : Nat → Nat → Int32} {lm : Nat → Int64} {x1 : Int32} {x2 : Int32} {x3 : Int32} {x4 : Int32} {x5 : Int32} {v : Int32} (hct : Ct G M_X9_append [.ref 0, .int x1, .int x2, .int x3, .int x4, .int x5] (SH, mm, lm) false (.inl (some (.int v))) (SH, mm1, lm) false 1 6) :
    Ct G M_L_append [.ref 0, .int x1, .int x2, .int x3, .int x4, .int x5, .ref 85] (SH, mm, lm) false (.inl (some (.int 0))) (SH, mm1, vp_updL lm 0 v.toInt64) false 1 6 := by
  refine ct_of_JH (by decide +kernel) rfl (Nat.le_of_ble_eq_true rfl) ?_
  refine J_aload (i := 6) rfl dL_append_0 ?_
  refine J_iconst (v := 0) (by decide) dL_append_2 ?_
  refine J_aload_n rfl (i := 0) rfl dL_append_3 ?_
  refine J_iload_n rfl (i := 1) rfl dL_append_4 ?_
  refine J_iload_n rfl (i := 2) rfl dL_append_5 ?_
  refine J_iload_n rfl (i := 3) rfl dL_append_6 ?_
  refine J_iload (i := 4) rfl dL_append_7 ?_
  refine J_iload (i := 5) rfl dL_append_9 ?_
  refine J_callV (as := [.int x1, .int x2, .int x3, .int x4, .int x5]) (k := 0) (st := [.int 0, .ref 85]) cal_X9_append cai_X9_append gw_624 ⟨by decide, by decide⟩ cnt_X9_append sh_0 rfl rfl (Nat.le_of_ble_eq_true rfl) dL_append_11 (a1 := 1) (b1 := 6) (a2 := 0) (b2 := 0) rfl rfl hct ?_
  refine J_i2l dL_append_14 ?_
  refine J_last sh_85 sh_out (by unfold vp_in; decide) dL_append_15 ?_
  refine J_goto (tgt := 23) dL_append_16 (by decide) ?_
  refine J_iconst (v := 0) (by decide) dL_append_23 ?_
  exact J_fini (ty := .int) rfl rfl dL_append_24 ⟨rfl, rfl⟩
theorem w1_append {G : Gx} {mm mm1 : Nat → Nat → Int32} {lm : Nat → Int64} {x1 : Int32} {x2 : Int32} {x3 : Int32} {x4 : Int32} {x5 : Int32} (hct : Ct G M_X9_append [.ref 0, .int x1, .int x2, .int x3, .int x4, .int x5] (SH, mm, lm) false (.inr "java/lang/IllegalStateException") (SH, mm1, lm) false 1 6) :
    Ct G M_L_append [.ref 0, .int x1, .int x2, .int x3, .int x4, .int x5, .ref 85] (SH, mm, lm) false (.inl (some (.int 1))) (SH, mm1, lm) false 1 6 := by
  refine ct_of_JH (by decide +kernel) rfl (Nat.le_of_ble_eq_true rfl) ?_
  refine J_aload (i := 6) rfl dL_append_0 ?_
  refine J_iconst (v := 0) (by decide) dL_append_2 ?_
  refine J_aload_n rfl (i := 0) rfl dL_append_3 ?_
  refine J_iload_n rfl (i := 1) rfl dL_append_4 ?_
  refine J_iload_n rfl (i := 2) rfl dL_append_5 ?_
  refine J_iload_n rfl (i := 3) rfl dL_append_6 ?_
  refine J_iload (i := 4) rfl dL_append_7 ?_
  refine J_iload (i := 5) rfl dL_append_9 ?_
  refine J_callVc (as := [.int x1, .int x2, .int x3, .int x4, .int x5]) (k := 0) (st := [.int 0, .ref 85]) cal_X9_append cai_X9_append gw_624 ⟨by decide, by decide⟩ cnt_X9_append sh_0 rfl rfl (Nat.le_of_ble_eq_true rfl) dL_append_11 ([] : List ExceptionTableEntry) ⟨0, 16, 19, 13⟩ [] rfl (fun y hy => by cases hy) (by decide) (by decide) gw_623 (List.mem_of_getElem? (i := 0) rfl) (a1 := 1) (b1 := 6) (a2 := 0) (b2 := 0) hct rfl rfl ?_
  refine Jq_astore (i := 7) (by decide) dL_append_19 ?_
  refine J_iconst (v := 1) (by decide) dL_append_21 ?_
  exact J_fini (ty := .int) rfl rfl dL_append_22 ⟨rfl, rfl⟩
theorem w_truncate {G : Gx} {mm mm1 : Nat → Nat → Int32} {lm : Nat → Int64} {x1 : Int32} {v : Int32} (hct : Ct G M_X9_truncate [.ref 0, .int x1] (SH, mm, lm) false (.inl (some (.int v))) (SH, mm1, lm) false 1 6) :
    Ct G M_L_truncate [.ref 0, .int x1, .ref 85] (SH, mm, lm) false (.inl (some (.int 0))) (SH, mm1, vp_updL lm 0 v.toInt64) false 1 6 := by
  refine ct_of_JH (by decide +kernel) rfl (Nat.le_of_ble_eq_true rfl) ?_
  refine J_aload_n rfl (i := 2) rfl dL_truncate_0 ?_
  refine J_iconst (v := 0) (by decide) dL_truncate_1 ?_
  refine J_aload_n rfl (i := 0) rfl dL_truncate_2 ?_
  refine J_iload_n rfl (i := 1) rfl dL_truncate_3 ?_
  refine J_callV (as := [.int x1]) (k := 0) (st := [.int 0, .ref 85]) cal_X9_truncate cai_X9_truncate gw_703 ⟨by decide, by decide⟩ cnt_X9_truncate sh_0 rfl rfl (Nat.le_of_ble_eq_true rfl) dL_truncate_4 (a1 := 1) (b1 := 6) (a2 := 0) (b2 := 0) rfl rfl hct ?_
  refine J_i2l dL_truncate_7 ?_
  refine J_last sh_85 sh_out (by unfold vp_in; decide) dL_truncate_8 ?_
  refine J_goto (tgt := 15) dL_truncate_9 (by decide) ?_
  refine J_iconst (v := 0) (by decide) dL_truncate_15 ?_
  exact J_fini (ty := .int) rfl rfl dL_truncate_16 ⟨rfl, rfl⟩
theorem w2_truncate {G : Gx} {mm mm1 : Nat → Nat → Int32} {lm : Nat → Int64} {x1 : Int32} (hct : Ct G M_X9_truncate [.ref 0, .int x1] (SH, mm, lm) false (.inr "java/lang/IllegalArgumentException") (SH, mm1, lm) false 1 6) :
    Ct G M_L_truncate [.ref 0, .int x1, .ref 85] (SH, mm, lm) false (.inl (some (.int 1))) (SH, mm1, lm) false 1 6 := by
  refine ct_of_JH (by decide +kernel) rfl (Nat.le_of_ble_eq_true rfl) ?_
  refine J_aload_n rfl (i := 2) rfl dL_truncate_0 ?_
  refine J_iconst (v := 0) (by decide) dL_truncate_1 ?_
  refine J_aload_n rfl (i := 0) rfl dL_truncate_2 ?_
  refine J_iload_n rfl (i := 1) rfl dL_truncate_3 ?_
  refine J_callVc (as := [.int x1]) (k := 0) (st := [.int 0, .ref 85]) cal_X9_truncate cai_X9_truncate gw_703 ⟨by decide, by decide⟩ cnt_X9_truncate sh_0 rfl rfl (Nat.le_of_ble_eq_true rfl) dL_truncate_4 ([] : List ExceptionTableEntry) ⟨0, 9, 12, 19⟩ [] rfl (fun y hy => by cases hy) (by decide) (by decide) gw_702 (List.mem_of_getElem? (i := 1) rfl) (a1 := 1) (b1 := 6) (a2 := 0) (b2 := 0) hct rfl rfl ?_
  refine Jq_astore_n rfl (i := 3) (by decide) dL_truncate_12 ?_
  refine J_iconst (v := 1) (by decide) dL_truncate_13 ?_
  exact J_fini (ty := .int) rfl rfl dL_truncate_14 ⟨rfl, rfl⟩
theorem w_hang {G : Gx} {mm mm1 : Nat → Nat → Int32} {lm : Nat → Int64} {x1 : Int32} {x2 : Int32} {x3 : Int32} {v : Int32} (hct : Ct G M_X9_hang [.ref 0, .int x1, .int x2, .int x3] (SH, mm, lm) false (.inl (some (.int v))) (SH, mm1, lm) false 1 6) :
    Ct G M_L_hang [.ref 0, .int x1, .int x2, .int x3, .ref 85] (SH, mm, lm) false (.inl (some (.int 0))) (SH, mm1, vp_updL lm 0 v.toInt64) false 1 6 := by
  refine ct_of_JH (by decide +kernel) rfl (Nat.le_of_ble_eq_true rfl) ?_
  refine J_aload (i := 4) rfl dL_hang_0 ?_
  refine J_iconst (v := 0) (by decide) dL_hang_2 ?_
  refine J_aload_n rfl (i := 0) rfl dL_hang_3 ?_
  refine J_iload_n rfl (i := 1) rfl dL_hang_4 ?_
  refine J_iload_n rfl (i := 2) rfl dL_hang_5 ?_
  refine J_iload_n rfl (i := 3) rfl dL_hang_6 ?_
  refine J_callV (as := [.int x1, .int x2, .int x3]) (k := 0) (st := [.int 0, .ref 85]) cal_X9_hang cai_X9_hang gw_729 ⟨by decide, by decide⟩ cnt_X9_hang sh_0 rfl rfl (Nat.le_of_ble_eq_true rfl) dL_hang_7 (a1 := 1) (b1 := 6) (a2 := 0) (b2 := 0) rfl rfl hct ?_
  refine J_i2l dL_hang_10 ?_
  refine J_last sh_85 sh_out (by unfold vp_in; decide) dL_hang_11 ?_
  refine J_goto (tgt := 23) dL_hang_12 (by decide) ?_
  refine J_iconst (v := 0) (by decide) dL_hang_23 ?_
  exact J_fini (ty := .int) rfl rfl dL_hang_24 ⟨rfl, rfl⟩
theorem w1_hang {G : Gx} {mm mm1 : Nat → Nat → Int32} {lm : Nat → Int64} {x1 : Int32} {x2 : Int32} {x3 : Int32} (hct : Ct G M_X9_hang [.ref 0, .int x1, .int x2, .int x3] (SH, mm, lm) false (.inr "java/lang/IllegalStateException") (SH, mm1, lm) false 1 6) :
    Ct G M_L_hang [.ref 0, .int x1, .int x2, .int x3, .ref 85] (SH, mm, lm) false (.inl (some (.int 1))) (SH, mm1, lm) false 1 6 := by
  refine ct_of_JH (by decide +kernel) rfl (Nat.le_of_ble_eq_true rfl) ?_
  refine J_aload (i := 4) rfl dL_hang_0 ?_
  refine J_iconst (v := 0) (by decide) dL_hang_2 ?_
  refine J_aload_n rfl (i := 0) rfl dL_hang_3 ?_
  refine J_iload_n rfl (i := 1) rfl dL_hang_4 ?_
  refine J_iload_n rfl (i := 2) rfl dL_hang_5 ?_
  refine J_iload_n rfl (i := 3) rfl dL_hang_6 ?_
  refine J_callVc (as := [.int x1, .int x2, .int x3]) (k := 0) (st := [.int 0, .ref 85]) cal_X9_hang cai_X9_hang gw_729 ⟨by decide, by decide⟩ cnt_X9_hang sh_0 rfl rfl (Nat.le_of_ble_eq_true rfl) dL_hang_7 ([] : List ExceptionTableEntry) ⟨0, 12, 15, 13⟩ [⟨0, 12, 19, 19⟩] rfl (fun y hy => by cases hy) (by decide) (by decide) gw_623 (List.mem_of_getElem? (i := 0) rfl) (a1 := 1) (b1 := 6) (a2 := 0) (b2 := 0) hct rfl rfl ?_
  refine Jq_astore (i := 5) (by decide) dL_hang_15 ?_
  refine J_iconst (v := 1) (by decide) dL_hang_17 ?_
  exact J_fini (ty := .int) rfl rfl dL_hang_18 ⟨rfl, rfl⟩
theorem w2_hang {G : Gx} {mm mm1 : Nat → Nat → Int32} {lm : Nat → Int64} {x1 : Int32} {x2 : Int32} {x3 : Int32} (hct : Ct G M_X9_hang [.ref 0, .int x1, .int x2, .int x3] (SH, mm, lm) false (.inr "java/lang/IllegalArgumentException") (SH, mm1, lm) false 1 6) :
    Ct G M_L_hang [.ref 0, .int x1, .int x2, .int x3, .ref 85] (SH, mm, lm) false (.inl (some (.int 2))) (SH, mm1, lm) false 1 6 := by
  refine ct_of_JH (by decide +kernel) rfl (Nat.le_of_ble_eq_true rfl) ?_
  refine J_aload (i := 4) rfl dL_hang_0 ?_
  refine J_iconst (v := 0) (by decide) dL_hang_2 ?_
  refine J_aload_n rfl (i := 0) rfl dL_hang_3 ?_
  refine J_iload_n rfl (i := 1) rfl dL_hang_4 ?_
  refine J_iload_n rfl (i := 2) rfl dL_hang_5 ?_
  refine J_iload_n rfl (i := 3) rfl dL_hang_6 ?_
  refine J_callVc (as := [.int x1, .int x2, .int x3]) (k := 0) (st := [.int 0, .ref 85]) cal_X9_hang cai_X9_hang gw_729 ⟨by decide, by decide⟩ cnt_X9_hang sh_0 rfl rfl (Nat.le_of_ble_eq_true rfl) dL_hang_7 ([⟨0, 12, 15, 13⟩] : List ExceptionTableEntry) ⟨0, 12, 19, 19⟩ [] rfl (fun y hy => by
      rcases List.mem_cons.mp hy with rfl | hy
      · exact ⟨by decide, "java/lang/IllegalStateException", gw_623, List.mem_of_getElem? (i := 0) rfl⟩
      · cases hy) (by decide) (by decide) gw_702 (List.mem_of_getElem? (i := 1) rfl) (a1 := 1) (b1 := 6) (a2 := 0) (b2 := 0) hct rfl rfl ?_
  refine Jq_astore (i := 5) (by decide) dL_hang_19 ?_
  refine J_iconst (v := 2) (by decide) dL_hang_21 ?_
  exact J_fini (ty := .int) rfl rfl dL_hang_22 ⟨rfl, rfl⟩
theorem w_takeDown {G : Gx} {mm mm1 : Nat → Nat → Int32} {lm : Nat → Int64} {x1 : Int32} {v : Int32} (hct : Ct G M_X9_takeDown [.ref 0, .int x1] (SH, mm, lm) false (.inl (some (.int v))) (SH, mm1, lm) false 1 6) :
    Ct G M_L_takeDown [.ref 0, .int x1, .ref 85] (SH, mm, lm) false (.inl (some (.int 0))) (SH, mm1, vp_updL lm 0 v.toInt64) false 1 6 := by
  refine ct_of_JH (by decide +kernel) rfl (Nat.le_of_ble_eq_true rfl) ?_
  refine J_aload_n rfl (i := 2) rfl dL_takeDown_0 ?_
  refine J_iconst (v := 0) (by decide) dL_takeDown_1 ?_
  refine J_aload_n rfl (i := 0) rfl dL_takeDown_2 ?_
  refine J_iload_n rfl (i := 1) rfl dL_takeDown_3 ?_
  refine J_callV (as := [.int x1]) (k := 0) (st := [.int 0, .ref 85]) cal_X9_takeDown cai_X9_takeDown gw_796 ⟨by decide, by decide⟩ cnt_X9_takeDown sh_0 rfl rfl (Nat.le_of_ble_eq_true rfl) dL_takeDown_4 (a1 := 1) (b1 := 6) (a2 := 0) (b2 := 0) rfl rfl hct ?_
  refine J_i2l dL_takeDown_7 ?_
  refine J_last sh_85 sh_out (by unfold vp_in; decide) dL_takeDown_8 ?_
  refine J_goto (tgt := 18) dL_takeDown_9 (by decide) ?_
  refine J_iconst (v := 0) (by decide) dL_takeDown_18 ?_
  exact J_fini (ty := .int) rfl rfl dL_takeDown_19 ⟨rfl, rfl⟩
theorem w1_takeDown {G : Gx} {mm mm1 : Nat → Nat → Int32} {lm : Nat → Int64} {x1 : Int32} (hct : Ct G M_X9_takeDown [.ref 0, .int x1] (SH, mm, lm) false (.inr "java/lang/IllegalStateException") (SH, mm1, lm) false 1 6) :
    Ct G M_L_takeDown [.ref 0, .int x1, .ref 85] (SH, mm, lm) false (.inl (some (.int 1))) (SH, mm1, lm) false 1 6 := by
  refine ct_of_JH (by decide +kernel) rfl (Nat.le_of_ble_eq_true rfl) ?_
  refine J_aload_n rfl (i := 2) rfl dL_takeDown_0 ?_
  refine J_iconst (v := 0) (by decide) dL_takeDown_1 ?_
  refine J_aload_n rfl (i := 0) rfl dL_takeDown_2 ?_
  refine J_iload_n rfl (i := 1) rfl dL_takeDown_3 ?_
  refine J_callVc (as := [.int x1]) (k := 0) (st := [.int 0, .ref 85]) cal_X9_takeDown cai_X9_takeDown gw_796 ⟨by decide, by decide⟩ cnt_X9_takeDown sh_0 rfl rfl (Nat.le_of_ble_eq_true rfl) dL_takeDown_4 ([] : List ExceptionTableEntry) ⟨0, 9, 12, 13⟩ [⟨0, 9, 15, 19⟩] rfl (fun y hy => by cases hy) (by decide) (by decide) gw_623 (List.mem_of_getElem? (i := 0) rfl) (a1 := 1) (b1 := 6) (a2 := 0) (b2 := 0) hct rfl rfl ?_
  refine Jq_astore_n rfl (i := 3) (by decide) dL_takeDown_12 ?_
  refine J_iconst (v := 1) (by decide) dL_takeDown_13 ?_
  exact J_fini (ty := .int) rfl rfl dL_takeDown_14 ⟨rfl, rfl⟩
theorem w2_takeDown {G : Gx} {mm mm1 : Nat → Nat → Int32} {lm : Nat → Int64} {x1 : Int32} (hct : Ct G M_X9_takeDown [.ref 0, .int x1] (SH, mm, lm) false (.inr "java/lang/IllegalArgumentException") (SH, mm1, lm) false 1 6) :
    Ct G M_L_takeDown [.ref 0, .int x1, .ref 85] (SH, mm, lm) false (.inl (some (.int 2))) (SH, mm1, lm) false 1 6 := by
  refine ct_of_JH (by decide +kernel) rfl (Nat.le_of_ble_eq_true rfl) ?_
  refine J_aload_n rfl (i := 2) rfl dL_takeDown_0 ?_
  refine J_iconst (v := 0) (by decide) dL_takeDown_1 ?_
  refine J_aload_n rfl (i := 0) rfl dL_takeDown_2 ?_
  refine J_iload_n rfl (i := 1) rfl dL_takeDown_3 ?_
  refine J_callVc (as := [.int x1]) (k := 0) (st := [.int 0, .ref 85]) cal_X9_takeDown cai_X9_takeDown gw_796 ⟨by decide, by decide⟩ cnt_X9_takeDown sh_0 rfl rfl (Nat.le_of_ble_eq_true rfl) dL_takeDown_4 ([⟨0, 9, 12, 13⟩] : List ExceptionTableEntry) ⟨0, 9, 15, 19⟩ [] rfl (fun y hy => by
      rcases List.mem_cons.mp hy with rfl | hy
      · exact ⟨by decide, "java/lang/IllegalStateException", gw_623, List.mem_of_getElem? (i := 0) rfl⟩
      · cases hy) (by decide) (by decide) gw_702 (List.mem_of_getElem? (i := 1) rfl) (a1 := 1) (b1 := 6) (a2 := 0) (b2 := 0) hct rfl rfl ?_
  refine Jq_astore_n rfl (i := 3) (by decide) dL_takeDown_15 ?_
  refine J_iconst (v := 2) (by decide) dL_takeDown_16 ?_
  exact J_fini (ty := .int) rfl rfl dL_takeDown_17 ⟨rfl, rfl⟩
theorem w_shift {G : Gx} {mm mm1 : Nat → Nat → Int32} {lm : Nat → Int64} {x1 : Int32} {x2 : Int32} {v : Int32} (hct : Ct G M_X9_shift [.ref 0, .int x1, .int x2] (SH, mm, lm) false (.inl (some (.int v))) (SH, mm1, lm) false 1 6) :
    Ct G M_L_shift [.ref 0, .int x1, .int x2, .ref 85] (SH, mm, lm) false (.inl (some (.int 0))) (SH, mm1, vp_updL lm 0 v.toInt64) false 1 6 := by
  refine ct_of_JH (by decide +kernel) rfl (Nat.le_of_ble_eq_true rfl) ?_
  refine J_aload_n rfl (i := 3) rfl dL_shift_0 ?_
  refine J_iconst (v := 0) (by decide) dL_shift_1 ?_
  refine J_aload_n rfl (i := 0) rfl dL_shift_2 ?_
  refine J_iload_n rfl (i := 1) rfl dL_shift_3 ?_
  refine J_iload_n rfl (i := 2) rfl dL_shift_4 ?_
  refine J_callV (as := [.int x1, .int x2]) (k := 0) (st := [.int 0, .ref 85]) cal_X9_shift cai_X9_shift gw_805 ⟨by decide, by decide⟩ cnt_X9_shift sh_0 rfl rfl (Nat.le_of_ble_eq_true rfl) dL_shift_5 (a1 := 1) (b1 := 6) (a2 := 0) (b2 := 0) rfl rfl hct ?_
  refine J_i2l dL_shift_8 ?_
  refine J_last sh_85 sh_out (by unfold vp_in; decide) dL_shift_9 ?_
  refine J_goto (tgt := 21) dL_shift_10 (by decide) ?_
  refine J_iconst (v := 0) (by decide) dL_shift_21 ?_
  exact J_fini (ty := .int) rfl rfl dL_shift_22 ⟨rfl, rfl⟩
theorem w1_shift {G : Gx} {mm mm1 : Nat → Nat → Int32} {lm : Nat → Int64} {x1 : Int32} {x2 : Int32} (hct : Ct G M_X9_shift [.ref 0, .int x1, .int x2] (SH, mm, lm) false (.inr "java/lang/IllegalStateException") (SH, mm1, lm) false 1 6) :
    Ct G M_L_shift [.ref 0, .int x1, .int x2, .ref 85] (SH, mm, lm) false (.inl (some (.int 1))) (SH, mm1, lm) false 1 6 := by
  refine ct_of_JH (by decide +kernel) rfl (Nat.le_of_ble_eq_true rfl) ?_
  refine J_aload_n rfl (i := 3) rfl dL_shift_0 ?_
  refine J_iconst (v := 0) (by decide) dL_shift_1 ?_
  refine J_aload_n rfl (i := 0) rfl dL_shift_2 ?_
  refine J_iload_n rfl (i := 1) rfl dL_shift_3 ?_
  refine J_iload_n rfl (i := 2) rfl dL_shift_4 ?_
  refine J_callVc (as := [.int x1, .int x2]) (k := 0) (st := [.int 0, .ref 85]) cal_X9_shift cai_X9_shift gw_805 ⟨by decide, by decide⟩ cnt_X9_shift sh_0 rfl rfl (Nat.le_of_ble_eq_true rfl) dL_shift_5 ([] : List ExceptionTableEntry) ⟨0, 10, 13, 13⟩ [⟨0, 10, 17, 19⟩] rfl (fun y hy => by cases hy) (by decide) (by decide) gw_623 (List.mem_of_getElem? (i := 0) rfl) (a1 := 1) (b1 := 6) (a2 := 0) (b2 := 0) hct rfl rfl ?_
  refine Jq_astore (i := 4) (by decide) dL_shift_13 ?_
  refine J_iconst (v := 1) (by decide) dL_shift_15 ?_
  exact J_fini (ty := .int) rfl rfl dL_shift_16 ⟨rfl, rfl⟩
theorem w2_shift {G : Gx} {mm mm1 : Nat → Nat → Int32} {lm : Nat → Int64} {x1 : Int32} {x2 : Int32} (hct : Ct G M_X9_shift [.ref 0, .int x1, .int x2] (SH, mm, lm) false (.inr "java/lang/IllegalArgumentException") (SH, mm1, lm) false 1 6) :
    Ct G M_L_shift [.ref 0, .int x1, .int x2, .ref 85] (SH, mm, lm) false (.inl (some (.int 2))) (SH, mm1, lm) false 1 6 := by
  refine ct_of_JH (by decide +kernel) rfl (Nat.le_of_ble_eq_true rfl) ?_
  refine J_aload_n rfl (i := 3) rfl dL_shift_0 ?_
  refine J_iconst (v := 0) (by decide) dL_shift_1 ?_
  refine J_aload_n rfl (i := 0) rfl dL_shift_2 ?_
  refine J_iload_n rfl (i := 1) rfl dL_shift_3 ?_
  refine J_iload_n rfl (i := 2) rfl dL_shift_4 ?_
  refine J_callVc (as := [.int x1, .int x2]) (k := 0) (st := [.int 0, .ref 85]) cal_X9_shift cai_X9_shift gw_805 ⟨by decide, by decide⟩ cnt_X9_shift sh_0 rfl rfl (Nat.le_of_ble_eq_true rfl) dL_shift_5 ([⟨0, 10, 13, 13⟩] : List ExceptionTableEntry) ⟨0, 10, 17, 19⟩ [] rfl (fun y hy => by
      rcases List.mem_cons.mp hy with rfl | hy
      · exact ⟨by decide, "java/lang/IllegalStateException", gw_623, List.mem_of_getElem? (i := 0) rfl⟩
      · cases hy) (by decide) (by decide) gw_702 (List.mem_of_getElem? (i := 1) rfl) (a1 := 1) (b1 := 6) (a2 := 0) (b2 := 0) hct rfl rfl ?_
  refine Jq_astore (i := 4) (by decide) dL_shift_17 ?_
  refine J_iconst (v := 2) (by decide) dL_shift_19 ?_
  exact J_fini (ty := .int) rfl rfl dL_shift_20 ⟨rfl, rfl⟩
theorem w_beamOf {G : Gx} {mm mm1 : Nat → Nat → Int32} {lm : Nat → Int64} {x1 : Int32} {v : Int32} (hct : Ct G M_X9_beamOf [.ref 0, .int x1] (SH, mm, lm) false (.inl (some (.int v))) (SH, mm1, lm) false 1 6) :
    Ct G M_L_beamOf [.ref 0, .int x1, .ref 85] (SH, mm, lm) false (.inl (some (.int 0))) (SH, mm1, vp_updL lm 0 v.toInt64) false 1 6 := by
  refine ct_of_JH (by decide +kernel) rfl (Nat.le_of_ble_eq_true rfl) ?_
  refine J_aload_n rfl (i := 2) rfl dL_beamOf_0 ?_
  refine J_iconst (v := 0) (by decide) dL_beamOf_1 ?_
  refine J_aload_n rfl (i := 0) rfl dL_beamOf_2 ?_
  refine J_iload_n rfl (i := 1) rfl dL_beamOf_3 ?_
  refine J_callV (as := [.int x1]) (k := 0) (st := [.int 0, .ref 85]) cal_X9_beamOf cai_X9_beamOf gw_812 ⟨by decide, by decide⟩ cnt_X9_beamOf sh_0 rfl rfl (Nat.le_of_ble_eq_true rfl) dL_beamOf_4 (a1 := 1) (b1 := 6) (a2 := 0) (b2 := 0) rfl rfl hct ?_
  refine J_i2l dL_beamOf_7 ?_
  refine J_last sh_85 sh_out (by unfold vp_in; decide) dL_beamOf_8 ?_
  refine J_goto (tgt := 18) dL_beamOf_9 (by decide) ?_
  refine J_iconst (v := 0) (by decide) dL_beamOf_18 ?_
  exact J_fini (ty := .int) rfl rfl dL_beamOf_19 ⟨rfl, rfl⟩
theorem w1_beamOf {G : Gx} {mm mm1 : Nat → Nat → Int32} {lm : Nat → Int64} {x1 : Int32} (hct : Ct G M_X9_beamOf [.ref 0, .int x1] (SH, mm, lm) false (.inr "java/lang/IllegalStateException") (SH, mm1, lm) false 1 6) :
    Ct G M_L_beamOf [.ref 0, .int x1, .ref 85] (SH, mm, lm) false (.inl (some (.int 1))) (SH, mm1, lm) false 1 6 := by
  refine ct_of_JH (by decide +kernel) rfl (Nat.le_of_ble_eq_true rfl) ?_
  refine J_aload_n rfl (i := 2) rfl dL_beamOf_0 ?_
  refine J_iconst (v := 0) (by decide) dL_beamOf_1 ?_
  refine J_aload_n rfl (i := 0) rfl dL_beamOf_2 ?_
  refine J_iload_n rfl (i := 1) rfl dL_beamOf_3 ?_
  refine J_callVc (as := [.int x1]) (k := 0) (st := [.int 0, .ref 85]) cal_X9_beamOf cai_X9_beamOf gw_812 ⟨by decide, by decide⟩ cnt_X9_beamOf sh_0 rfl rfl (Nat.le_of_ble_eq_true rfl) dL_beamOf_4 ([] : List ExceptionTableEntry) ⟨0, 9, 12, 13⟩ [⟨0, 9, 15, 19⟩] rfl (fun y hy => by cases hy) (by decide) (by decide) gw_623 (List.mem_of_getElem? (i := 0) rfl) (a1 := 1) (b1 := 6) (a2 := 0) (b2 := 0) hct rfl rfl ?_
  refine Jq_astore_n rfl (i := 3) (by decide) dL_beamOf_12 ?_
  refine J_iconst (v := 1) (by decide) dL_beamOf_13 ?_
  exact J_fini (ty := .int) rfl rfl dL_beamOf_14 ⟨rfl, rfl⟩
theorem w2_beamOf {G : Gx} {mm mm1 : Nat → Nat → Int32} {lm : Nat → Int64} {x1 : Int32} (hct : Ct G M_X9_beamOf [.ref 0, .int x1] (SH, mm, lm) false (.inr "java/lang/IllegalArgumentException") (SH, mm1, lm) false 1 6) :
    Ct G M_L_beamOf [.ref 0, .int x1, .ref 85] (SH, mm, lm) false (.inl (some (.int 2))) (SH, mm1, lm) false 1 6 := by
  refine ct_of_JH (by decide +kernel) rfl (Nat.le_of_ble_eq_true rfl) ?_
  refine J_aload_n rfl (i := 2) rfl dL_beamOf_0 ?_
  refine J_iconst (v := 0) (by decide) dL_beamOf_1 ?_
  refine J_aload_n rfl (i := 0) rfl dL_beamOf_2 ?_
  refine J_iload_n rfl (i := 1) rfl dL_beamOf_3 ?_
  refine J_callVc (as := [.int x1]) (k := 0) (st := [.int 0, .ref 85]) cal_X9_beamOf cai_X9_beamOf gw_812 ⟨by decide, by decide⟩ cnt_X9_beamOf sh_0 rfl rfl (Nat.le_of_ble_eq_true rfl) dL_beamOf_4 ([⟨0, 9, 12, 13⟩] : List ExceptionTableEntry) ⟨0, 9, 15, 19⟩ [] rfl (fun y hy => by
      rcases List.mem_cons.mp hy with rfl | hy
      · exact ⟨by decide, "java/lang/IllegalStateException", gw_623, List.mem_of_getElem? (i := 0) rfl⟩
      · cases hy) (by decide) (by decide) gw_702 (List.mem_of_getElem? (i := 1) rfl) (a1 := 1) (b1 := 6) (a2 := 0) (b2 := 0) hct rfl rfl ?_
  refine Jq_astore_n rfl (i := 3) (by decide) dL_beamOf_15 ?_
  refine J_iconst (v := 2) (by decide) dL_beamOf_16 ?_
  exact J_fini (ty := .int) rfl rfl dL_beamOf_17 ⟨rfl, rfl⟩
theorem w_positionOf {G : Gx} {mm mm1 : Nat → Nat → Int32} {lm : Nat → Int64} {x1 : Int32} {v : Int32} (hct : Ct G M_X9_positionOf [.ref 0, .int x1] (SH, mm, lm) false (.inl (some (.int v))) (SH, mm1, lm) false 1 6) :
    Ct G M_L_positionOf [.ref 0, .int x1, .ref 85] (SH, mm, lm) false (.inl (some (.int 0))) (SH, mm1, vp_updL lm 0 v.toInt64) false 1 6 := by
  refine ct_of_JH (by decide +kernel) rfl (Nat.le_of_ble_eq_true rfl) ?_
  refine J_aload_n rfl (i := 2) rfl dL_positionOf_0 ?_
  refine J_iconst (v := 0) (by decide) dL_positionOf_1 ?_
  refine J_aload_n rfl (i := 0) rfl dL_positionOf_2 ?_
  refine J_iload_n rfl (i := 1) rfl dL_positionOf_3 ?_
  refine J_callV (as := [.int x1]) (k := 0) (st := [.int 0, .ref 85]) cal_X9_positionOf cai_X9_positionOf gw_820 ⟨by decide, by decide⟩ cnt_X9_positionOf sh_0 rfl rfl (Nat.le_of_ble_eq_true rfl) dL_positionOf_4 (a1 := 1) (b1 := 6) (a2 := 0) (b2 := 0) rfl rfl hct ?_
  refine J_i2l dL_positionOf_7 ?_
  refine J_last sh_85 sh_out (by unfold vp_in; decide) dL_positionOf_8 ?_
  refine J_goto (tgt := 21) dL_positionOf_9 (by decide) ?_
  refine J_iconst (v := 0) (by decide) dL_positionOf_21 ?_
  exact J_fini (ty := .int) rfl rfl dL_positionOf_22 ⟨rfl, rfl⟩
theorem w1_positionOf {G : Gx} {mm mm1 : Nat → Nat → Int32} {lm : Nat → Int64} {x1 : Int32} (hct : Ct G M_X9_positionOf [.ref 0, .int x1] (SH, mm, lm) false (.inr "java/lang/IllegalStateException") (SH, mm1, lm) false 1 6) :
    Ct G M_L_positionOf [.ref 0, .int x1, .ref 85] (SH, mm, lm) false (.inl (some (.int 1))) (SH, mm1, lm) false 1 6 := by
  refine ct_of_JH (by decide +kernel) rfl (Nat.le_of_ble_eq_true rfl) ?_
  refine J_aload_n rfl (i := 2) rfl dL_positionOf_0 ?_
  refine J_iconst (v := 0) (by decide) dL_positionOf_1 ?_
  refine J_aload_n rfl (i := 0) rfl dL_positionOf_2 ?_
  refine J_iload_n rfl (i := 1) rfl dL_positionOf_3 ?_
  refine J_callVc (as := [.int x1]) (k := 0) (st := [.int 0, .ref 85]) cal_X9_positionOf cai_X9_positionOf gw_820 ⟨by decide, by decide⟩ cnt_X9_positionOf sh_0 rfl rfl (Nat.le_of_ble_eq_true rfl) dL_positionOf_4 ([] : List ExceptionTableEntry) ⟨0, 9, 12, 13⟩ [⟨0, 9, 15, 19⟩, ⟨0, 9, 18, 38⟩] rfl (fun y hy => by cases hy) (by decide) (by decide) gw_623 (List.mem_of_getElem? (i := 0) rfl) (a1 := 1) (b1 := 6) (a2 := 0) (b2 := 0) hct rfl rfl ?_
  refine Jq_astore_n rfl (i := 3) (by decide) dL_positionOf_12 ?_
  refine J_iconst (v := 1) (by decide) dL_positionOf_13 ?_
  exact J_fini (ty := .int) rfl rfl dL_positionOf_14 ⟨rfl, rfl⟩
theorem w2_positionOf {G : Gx} {mm mm1 : Nat → Nat → Int32} {lm : Nat → Int64} {x1 : Int32} (hct : Ct G M_X9_positionOf [.ref 0, .int x1] (SH, mm, lm) false (.inr "java/lang/IllegalArgumentException") (SH, mm1, lm) false 1 6) :
    Ct G M_L_positionOf [.ref 0, .int x1, .ref 85] (SH, mm, lm) false (.inl (some (.int 2))) (SH, mm1, lm) false 1 6 := by
  refine ct_of_JH (by decide +kernel) rfl (Nat.le_of_ble_eq_true rfl) ?_
  refine J_aload_n rfl (i := 2) rfl dL_positionOf_0 ?_
  refine J_iconst (v := 0) (by decide) dL_positionOf_1 ?_
  refine J_aload_n rfl (i := 0) rfl dL_positionOf_2 ?_
  refine J_iload_n rfl (i := 1) rfl dL_positionOf_3 ?_
  refine J_callVc (as := [.int x1]) (k := 0) (st := [.int 0, .ref 85]) cal_X9_positionOf cai_X9_positionOf gw_820 ⟨by decide, by decide⟩ cnt_X9_positionOf sh_0 rfl rfl (Nat.le_of_ble_eq_true rfl) dL_positionOf_4 ([⟨0, 9, 12, 13⟩] : List ExceptionTableEntry) ⟨0, 9, 15, 19⟩ [⟨0, 9, 18, 38⟩] rfl (fun y hy => by
      rcases List.mem_cons.mp hy with rfl | hy
      · exact ⟨by decide, "java/lang/IllegalStateException", gw_623, List.mem_of_getElem? (i := 0) rfl⟩
      · cases hy) (by decide) (by decide) gw_702 (List.mem_of_getElem? (i := 1) rfl) (a1 := 1) (b1 := 6) (a2 := 0) (b2 := 0) hct rfl rfl ?_
  refine Jq_astore_n rfl (i := 3) (by decide) dL_positionOf_15 ?_
  refine J_iconst (v := 2) (by decide) dL_positionOf_16 ?_
  exact J_fini (ty := .int) rfl rfl dL_positionOf_17 ⟨rfl, rfl⟩
theorem w3_positionOf {G : Gx} {mm mm1 : Nat → Nat → Int32} {lm : Nat → Int64} {x1 : Int32} (hct : Ct G M_X9_positionOf [.ref 0, .int x1] (SH, mm, lm) false (.inr "java/util/NoSuchElementException") (SH, mm1, lm) false 1 6) :
    Ct G M_L_positionOf [.ref 0, .int x1, .ref 85] (SH, mm, lm) false (.inl (some (.int 3))) (SH, mm1, lm) false 1 6 := by
  refine ct_of_JH (by decide +kernel) rfl (Nat.le_of_ble_eq_true rfl) ?_
  refine J_aload_n rfl (i := 2) rfl dL_positionOf_0 ?_
  refine J_iconst (v := 0) (by decide) dL_positionOf_1 ?_
  refine J_aload_n rfl (i := 0) rfl dL_positionOf_2 ?_
  refine J_iload_n rfl (i := 1) rfl dL_positionOf_3 ?_
  refine J_callVc (as := [.int x1]) (k := 0) (st := [.int 0, .ref 85]) cal_X9_positionOf cai_X9_positionOf gw_820 ⟨by decide, by decide⟩ cnt_X9_positionOf sh_0 rfl rfl (Nat.le_of_ble_eq_true rfl) dL_positionOf_4 ([⟨0, 9, 12, 13⟩, ⟨0, 9, 15, 19⟩] : List ExceptionTableEntry) ⟨0, 9, 18, 38⟩ [] rfl (fun y hy => by
      rcases List.mem_cons.mp hy with rfl | hy
      · exact ⟨by decide, "java/lang/IllegalStateException", gw_623, List.mem_of_getElem? (i := 1) rfl⟩
      · rcases List.mem_cons.mp hy with rfl | hy
        · exact ⟨by decide, "java/lang/IllegalArgumentException", gw_702, List.mem_of_getElem? (i := 2) rfl⟩
        · cases hy) (by decide) (by decide) gw_819 (List.mem_of_getElem? (i := 2) rfl) (a1 := 1) (b1 := 6) (a2 := 0) (b2 := 0) hct rfl rfl ?_
  refine Jq_astore_n rfl (i := 3) (by decide) dL_positionOf_18 ?_
  refine J_iconst (v := 3) (by decide) dL_positionOf_19 ?_
  exact J_fini (ty := .int) rfl rfl dL_positionOf_20 ⟨rfl, rfl⟩
theorem w_torque {G : Gx} {mm mm1 : Nat → Nat → Int32} {lm : Nat → Int64} {x1 : Int32} {v : Int32} (hct : Ct G M_X9_torque [.ref 0, .int x1] (SH, mm, lm) false (.inl (some (.int v))) (SH, mm1, lm) false 1 6) :
    Ct G M_L_torque [.ref 0, .int x1, .ref 85] (SH, mm, lm) false (.inl (some (.int 0))) (SH, mm1, vp_updL lm 0 v.toInt64) false 1 6 := by
  refine ct_of_JH (by decide +kernel) rfl (Nat.le_of_ble_eq_true rfl) ?_
  refine J_aload_n rfl (i := 2) rfl dL_torque_0 ?_
  refine J_iconst (v := 0) (by decide) dL_torque_1 ?_
  refine J_aload_n rfl (i := 0) rfl dL_torque_2 ?_
  refine J_iload_n rfl (i := 1) rfl dL_torque_3 ?_
  refine J_callV (as := [.int x1]) (k := 0) (st := [.int 0, .ref 85]) cal_X9_torque cai_X9_torque gw_847 ⟨by decide, by decide⟩ cnt_X9_torque sh_0 rfl rfl (Nat.le_of_ble_eq_true rfl) dL_torque_4 (a1 := 1) (b1 := 6) (a2 := 0) (b2 := 0) rfl rfl hct ?_
  refine J_i2l dL_torque_7 ?_
  refine J_last sh_85 sh_out (by unfold vp_in; decide) dL_torque_8 ?_
  refine J_goto (tgt := 18) dL_torque_9 (by decide) ?_
  refine J_iconst (v := 0) (by decide) dL_torque_18 ?_
  exact J_fini (ty := .int) rfl rfl dL_torque_19 ⟨rfl, rfl⟩
theorem w1_torque {G : Gx} {mm mm1 : Nat → Nat → Int32} {lm : Nat → Int64} {x1 : Int32} (hct : Ct G M_X9_torque [.ref 0, .int x1] (SH, mm, lm) false (.inr "java/lang/IllegalStateException") (SH, mm1, lm) false 1 6) :
    Ct G M_L_torque [.ref 0, .int x1, .ref 85] (SH, mm, lm) false (.inl (some (.int 1))) (SH, mm1, lm) false 1 6 := by
  refine ct_of_JH (by decide +kernel) rfl (Nat.le_of_ble_eq_true rfl) ?_
  refine J_aload_n rfl (i := 2) rfl dL_torque_0 ?_
  refine J_iconst (v := 0) (by decide) dL_torque_1 ?_
  refine J_aload_n rfl (i := 0) rfl dL_torque_2 ?_
  refine J_iload_n rfl (i := 1) rfl dL_torque_3 ?_
  refine J_callVc (as := [.int x1]) (k := 0) (st := [.int 0, .ref 85]) cal_X9_torque cai_X9_torque gw_847 ⟨by decide, by decide⟩ cnt_X9_torque sh_0 rfl rfl (Nat.le_of_ble_eq_true rfl) dL_torque_4 ([] : List ExceptionTableEntry) ⟨0, 9, 12, 13⟩ [⟨0, 9, 15, 19⟩] rfl (fun y hy => by cases hy) (by decide) (by decide) gw_623 (List.mem_of_getElem? (i := 0) rfl) (a1 := 1) (b1 := 6) (a2 := 0) (b2 := 0) hct rfl rfl ?_
  refine Jq_astore_n rfl (i := 3) (by decide) dL_torque_12 ?_
  refine J_iconst (v := 1) (by decide) dL_torque_13 ?_
  exact J_fini (ty := .int) rfl rfl dL_torque_14 ⟨rfl, rfl⟩
theorem w2_torque {G : Gx} {mm mm1 : Nat → Nat → Int32} {lm : Nat → Int64} {x1 : Int32} (hct : Ct G M_X9_torque [.ref 0, .int x1] (SH, mm, lm) false (.inr "java/lang/IllegalArgumentException") (SH, mm1, lm) false 1 6) :
    Ct G M_L_torque [.ref 0, .int x1, .ref 85] (SH, mm, lm) false (.inl (some (.int 2))) (SH, mm1, lm) false 1 6 := by
  refine ct_of_JH (by decide +kernel) rfl (Nat.le_of_ble_eq_true rfl) ?_
  refine J_aload_n rfl (i := 2) rfl dL_torque_0 ?_
  refine J_iconst (v := 0) (by decide) dL_torque_1 ?_
  refine J_aload_n rfl (i := 0) rfl dL_torque_2 ?_
  refine J_iload_n rfl (i := 1) rfl dL_torque_3 ?_
  refine J_callVc (as := [.int x1]) (k := 0) (st := [.int 0, .ref 85]) cal_X9_torque cai_X9_torque gw_847 ⟨by decide, by decide⟩ cnt_X9_torque sh_0 rfl rfl (Nat.le_of_ble_eq_true rfl) dL_torque_4 ([⟨0, 9, 12, 13⟩] : List ExceptionTableEntry) ⟨0, 9, 15, 19⟩ [] rfl (fun y hy => by
      rcases List.mem_cons.mp hy with rfl | hy
      · exact ⟨by decide, "java/lang/IllegalStateException", gw_623, List.mem_of_getElem? (i := 0) rfl⟩
      · cases hy) (by decide) (by decide) gw_702 (List.mem_of_getElem? (i := 1) rfl) (a1 := 1) (b1 := 6) (a2 := 0) (b2 := 0) hct rfl rfl ?_
  refine Jq_astore_n rfl (i := 3) (by decide) dL_torque_15 ?_
  refine J_iconst (v := 2) (by decide) dL_torque_16 ?_
  exact J_fini (ty := .int) rfl rfl dL_torque_17 ⟨rfl, rfl⟩
theorem w_bellAt {G : Gx} {mm mm1 : Nat → Nat → Int32} {lm : Nat → Int64} {x1 : Int32} {x2 : Int32} {v : Int32} (hct : Ct G M_X9_bellAt [.ref 0, .int x1, .int x2] (SH, mm, lm) false (.inl (some (.int v))) (SH, mm1, lm) false 1 6) :
    Ct G M_L_bellAt [.ref 0, .int x1, .int x2, .ref 85] (SH, mm, lm) false (.inl (some (.int 0))) (SH, mm1, vp_updL lm 0 v.toInt64) false 1 6 := by
  refine ct_of_JH (by decide +kernel) rfl (Nat.le_of_ble_eq_true rfl) ?_
  refine J_aload_n rfl (i := 3) rfl dL_bellAt_0 ?_
  refine J_iconst (v := 0) (by decide) dL_bellAt_1 ?_
  refine J_aload_n rfl (i := 0) rfl dL_bellAt_2 ?_
  refine J_iload_n rfl (i := 1) rfl dL_bellAt_3 ?_
  refine J_iload_n rfl (i := 2) rfl dL_bellAt_4 ?_
  refine J_callV (as := [.int x1, .int x2]) (k := 0) (st := [.int 0, .ref 85]) cal_X9_bellAt cai_X9_bellAt gw_854 ⟨by decide, by decide⟩ cnt_X9_bellAt sh_0 rfl rfl (Nat.le_of_ble_eq_true rfl) dL_bellAt_5 (a1 := 1) (b1 := 6) (a2 := 0) (b2 := 0) rfl rfl hct ?_
  refine J_i2l dL_bellAt_8 ?_
  refine J_last sh_85 sh_out (by unfold vp_in; decide) dL_bellAt_9 ?_
  refine J_goto (tgt := 21) dL_bellAt_10 (by decide) ?_
  refine J_iconst (v := 0) (by decide) dL_bellAt_21 ?_
  exact J_fini (ty := .int) rfl rfl dL_bellAt_22 ⟨rfl, rfl⟩
theorem w1_bellAt {G : Gx} {mm mm1 : Nat → Nat → Int32} {lm : Nat → Int64} {x1 : Int32} {x2 : Int32} (hct : Ct G M_X9_bellAt [.ref 0, .int x1, .int x2] (SH, mm, lm) false (.inr "java/lang/IllegalStateException") (SH, mm1, lm) false 1 6) :
    Ct G M_L_bellAt [.ref 0, .int x1, .int x2, .ref 85] (SH, mm, lm) false (.inl (some (.int 1))) (SH, mm1, lm) false 1 6 := by
  refine ct_of_JH (by decide +kernel) rfl (Nat.le_of_ble_eq_true rfl) ?_
  refine J_aload_n rfl (i := 3) rfl dL_bellAt_0 ?_
  refine J_iconst (v := 0) (by decide) dL_bellAt_1 ?_
  refine J_aload_n rfl (i := 0) rfl dL_bellAt_2 ?_
  refine J_iload_n rfl (i := 1) rfl dL_bellAt_3 ?_
  refine J_iload_n rfl (i := 2) rfl dL_bellAt_4 ?_
  refine J_callVc (as := [.int x1, .int x2]) (k := 0) (st := [.int 0, .ref 85]) cal_X9_bellAt cai_X9_bellAt gw_854 ⟨by decide, by decide⟩ cnt_X9_bellAt sh_0 rfl rfl (Nat.le_of_ble_eq_true rfl) dL_bellAt_5 ([] : List ExceptionTableEntry) ⟨0, 10, 13, 13⟩ [⟨0, 10, 17, 19⟩] rfl (fun y hy => by cases hy) (by decide) (by decide) gw_623 (List.mem_of_getElem? (i := 0) rfl) (a1 := 1) (b1 := 6) (a2 := 0) (b2 := 0) hct rfl rfl ?_
  refine Jq_astore (i := 4) (by decide) dL_bellAt_13 ?_
  refine J_iconst (v := 1) (by decide) dL_bellAt_15 ?_
  exact J_fini (ty := .int) rfl rfl dL_bellAt_16 ⟨rfl, rfl⟩
theorem w2_bellAt {G : Gx} {mm mm1 : Nat → Nat → Int32} {lm : Nat → Int64} {x1 : Int32} {x2 : Int32} (hct : Ct G M_X9_bellAt [.ref 0, .int x1, .int x2] (SH, mm, lm) false (.inr "java/lang/IllegalArgumentException") (SH, mm1, lm) false 1 6) :
    Ct G M_L_bellAt [.ref 0, .int x1, .int x2, .ref 85] (SH, mm, lm) false (.inl (some (.int 2))) (SH, mm1, lm) false 1 6 := by
  refine ct_of_JH (by decide +kernel) rfl (Nat.le_of_ble_eq_true rfl) ?_
  refine J_aload_n rfl (i := 3) rfl dL_bellAt_0 ?_
  refine J_iconst (v := 0) (by decide) dL_bellAt_1 ?_
  refine J_aload_n rfl (i := 0) rfl dL_bellAt_2 ?_
  refine J_iload_n rfl (i := 1) rfl dL_bellAt_3 ?_
  refine J_iload_n rfl (i := 2) rfl dL_bellAt_4 ?_
  refine J_callVc (as := [.int x1, .int x2]) (k := 0) (st := [.int 0, .ref 85]) cal_X9_bellAt cai_X9_bellAt gw_854 ⟨by decide, by decide⟩ cnt_X9_bellAt sh_0 rfl rfl (Nat.le_of_ble_eq_true rfl) dL_bellAt_5 ([⟨0, 10, 13, 13⟩] : List ExceptionTableEntry) ⟨0, 10, 17, 19⟩ [] rfl (fun y hy => by
      rcases List.mem_cons.mp hy with rfl | hy
      · exact ⟨by decide, "java/lang/IllegalStateException", gw_623, List.mem_of_getElem? (i := 0) rfl⟩
      · cases hy) (by decide) (by decide) gw_702 (List.mem_of_getElem? (i := 1) rfl) (a1 := 1) (b1 := 6) (a2 := 0) (b2 := 0) hct rfl rfl ?_
  refine Jq_astore (i := 4) (by decide) dL_bellAt_17 ?_
  refine J_iconst (v := 2) (by decide) dL_bellAt_19 ?_
  exact J_fini (ty := .int) rfl rfl dL_bellAt_20 ⟨rfl, rfl⟩
theorem w_freePositions {G : Gx} {mm mm1 : Nat → Nat → Int32} {lm : Nat → Int64} {x1 : Int32} {x2 : Int32} {v : Int32} (hct : Ct G M_X9_freePositions [.ref 0, .int x1, .int x2] (SH, mm, lm) false (.inl (some (.int v))) (SH, mm1, lm) false 1 6) :
    Ct G M_L_freePositions [.ref 0, .int x1, .int x2, .ref 85] (SH, mm, lm) false (.inl (some (.int 0))) (SH, mm1, vp_updL lm 0 v.toInt64) false 1 6 := by
  refine ct_of_JH (by decide +kernel) rfl (Nat.le_of_ble_eq_true rfl) ?_
  refine J_aload_n rfl (i := 3) rfl dL_freePositions_0 ?_
  refine J_iconst (v := 0) (by decide) dL_freePositions_1 ?_
  refine J_aload_n rfl (i := 0) rfl dL_freePositions_2 ?_
  refine J_iload_n rfl (i := 1) rfl dL_freePositions_3 ?_
  refine J_iload_n rfl (i := 2) rfl dL_freePositions_4 ?_
  refine J_callV (as := [.int x1, .int x2]) (k := 0) (st := [.int 0, .ref 85]) cal_X9_freePositions cai_X9_freePositions gw_875 ⟨by decide, by decide⟩ cnt_X9_freePositions sh_0 rfl rfl (Nat.le_of_ble_eq_true rfl) dL_freePositions_5 (a1 := 1) (b1 := 6) (a2 := 0) (b2 := 0) rfl rfl hct ?_
  refine J_i2l dL_freePositions_8 ?_
  refine J_last sh_85 sh_out (by unfold vp_in; decide) dL_freePositions_9 ?_
  refine J_goto (tgt := 21) dL_freePositions_10 (by decide) ?_
  refine J_iconst (v := 0) (by decide) dL_freePositions_21 ?_
  exact J_fini (ty := .int) rfl rfl dL_freePositions_22 ⟨rfl, rfl⟩
theorem w1_freePositions {G : Gx} {mm mm1 : Nat → Nat → Int32} {lm : Nat → Int64} {x1 : Int32} {x2 : Int32} (hct : Ct G M_X9_freePositions [.ref 0, .int x1, .int x2] (SH, mm, lm) false (.inr "java/lang/IllegalStateException") (SH, mm1, lm) false 1 6) :
    Ct G M_L_freePositions [.ref 0, .int x1, .int x2, .ref 85] (SH, mm, lm) false (.inl (some (.int 1))) (SH, mm1, lm) false 1 6 := by
  refine ct_of_JH (by decide +kernel) rfl (Nat.le_of_ble_eq_true rfl) ?_
  refine J_aload_n rfl (i := 3) rfl dL_freePositions_0 ?_
  refine J_iconst (v := 0) (by decide) dL_freePositions_1 ?_
  refine J_aload_n rfl (i := 0) rfl dL_freePositions_2 ?_
  refine J_iload_n rfl (i := 1) rfl dL_freePositions_3 ?_
  refine J_iload_n rfl (i := 2) rfl dL_freePositions_4 ?_
  refine J_callVc (as := [.int x1, .int x2]) (k := 0) (st := [.int 0, .ref 85]) cal_X9_freePositions cai_X9_freePositions gw_875 ⟨by decide, by decide⟩ cnt_X9_freePositions sh_0 rfl rfl (Nat.le_of_ble_eq_true rfl) dL_freePositions_5 ([] : List ExceptionTableEntry) ⟨0, 10, 13, 13⟩ [⟨0, 10, 17, 19⟩] rfl (fun y hy => by cases hy) (by decide) (by decide) gw_623 (List.mem_of_getElem? (i := 0) rfl) (a1 := 1) (b1 := 6) (a2 := 0) (b2 := 0) hct rfl rfl ?_
  refine Jq_astore (i := 4) (by decide) dL_freePositions_13 ?_
  refine J_iconst (v := 1) (by decide) dL_freePositions_15 ?_
  exact J_fini (ty := .int) rfl rfl dL_freePositions_16 ⟨rfl, rfl⟩
theorem w2_freePositions {G : Gx} {mm mm1 : Nat → Nat → Int32} {lm : Nat → Int64} {x1 : Int32} {x2 : Int32} (hct : Ct G M_X9_freePositions [.ref 0, .int x1, .int x2] (SH, mm, lm) false (.inr "java/lang/IllegalArgumentException") (SH, mm1, lm) false 1 6) :
    Ct G M_L_freePositions [.ref 0, .int x1, .int x2, .ref 85] (SH, mm, lm) false (.inl (some (.int 2))) (SH, mm1, lm) false 1 6 := by
  refine ct_of_JH (by decide +kernel) rfl (Nat.le_of_ble_eq_true rfl) ?_
  refine J_aload_n rfl (i := 3) rfl dL_freePositions_0 ?_
  refine J_iconst (v := 0) (by decide) dL_freePositions_1 ?_
  refine J_aload_n rfl (i := 0) rfl dL_freePositions_2 ?_
  refine J_iload_n rfl (i := 1) rfl dL_freePositions_3 ?_
  refine J_iload_n rfl (i := 2) rfl dL_freePositions_4 ?_
  refine J_callVc (as := [.int x1, .int x2]) (k := 0) (st := [.int 0, .ref 85]) cal_X9_freePositions cai_X9_freePositions gw_875 ⟨by decide, by decide⟩ cnt_X9_freePositions sh_0 rfl rfl (Nat.le_of_ble_eq_true rfl) dL_freePositions_5 ([⟨0, 10, 13, 13⟩] : List ExceptionTableEntry) ⟨0, 10, 17, 19⟩ [] rfl (fun y hy => by
      rcases List.mem_cons.mp hy with rfl | hy
      · exact ⟨by decide, "java/lang/IllegalStateException", gw_623, List.mem_of_getElem? (i := 0) rfl⟩
      · cases hy) (by decide) (by decide) gw_702 (List.mem_of_getElem? (i := 1) rfl) (a1 := 1) (b1 := 6) (a2 := 0) (b2 := 0) hct rfl rfl ?_
  refine Jq_astore (i := 4) (by decide) dL_freePositions_17 ?_
  refine J_iconst (v := 2) (by decide) dL_freePositions_19 ?_
  exact J_fini (ty := .int) rfl rfl dL_freePositions_20 ⟨rfl, rfl⟩
theorem w_bestPosition {G : Gx} {mm mm1 : Nat → Nat → Int32} {lm : Nat → Int64} {x1 : Int32} {x2 : Int32} {v : Int32} (hct : Ct G M_X9_bestPosition [.ref 0, .int x1, .int x2] (SH, mm, lm) false (.inl (some (.int v))) (SH, mm1, lm) false 1 6) :
    Ct G M_L_bestPosition [.ref 0, .int x1, .int x2, .ref 85] (SH, mm, lm) false (.inl (some (.int 0))) (SH, mm1, vp_updL lm 0 v.toInt64) false 1 6 := by
  refine ct_of_JH (by decide +kernel) rfl (Nat.le_of_ble_eq_true rfl) ?_
  refine J_aload_n rfl (i := 3) rfl dL_bestPosition_0 ?_
  refine J_iconst (v := 0) (by decide) dL_bestPosition_1 ?_
  refine J_aload_n rfl (i := 0) rfl dL_bestPosition_2 ?_
  refine J_iload_n rfl (i := 1) rfl dL_bestPosition_3 ?_
  refine J_iload_n rfl (i := 2) rfl dL_bestPosition_4 ?_
  refine J_callV (as := [.int x1, .int x2]) (k := 0) (st := [.int 0, .ref 85]) cal_X9_bestPosition cai_X9_bestPosition gw_887 ⟨by decide, by decide⟩ cnt_X9_bestPosition sh_0 rfl rfl (Nat.le_of_ble_eq_true rfl) dL_bestPosition_5 (a1 := 1) (b1 := 6) (a2 := 0) (b2 := 0) rfl rfl hct ?_
  refine J_i2l dL_bestPosition_8 ?_
  refine J_last sh_85 sh_out (by unfold vp_in; decide) dL_bestPosition_9 ?_
  refine J_goto (tgt := 21) dL_bestPosition_10 (by decide) ?_
  refine J_iconst (v := 0) (by decide) dL_bestPosition_21 ?_
  exact J_fini (ty := .int) rfl rfl dL_bestPosition_22 ⟨rfl, rfl⟩
theorem w1_bestPosition {G : Gx} {mm mm1 : Nat → Nat → Int32} {lm : Nat → Int64} {x1 : Int32} {x2 : Int32} (hct : Ct G M_X9_bestPosition [.ref 0, .int x1, .int x2] (SH, mm, lm) false (.inr "java/lang/IllegalStateException") (SH, mm1, lm) false 1 6) :
    Ct G M_L_bestPosition [.ref 0, .int x1, .int x2, .ref 85] (SH, mm, lm) false (.inl (some (.int 1))) (SH, mm1, lm) false 1 6 := by
  refine ct_of_JH (by decide +kernel) rfl (Nat.le_of_ble_eq_true rfl) ?_
  refine J_aload_n rfl (i := 3) rfl dL_bestPosition_0 ?_
  refine J_iconst (v := 0) (by decide) dL_bestPosition_1 ?_
  refine J_aload_n rfl (i := 0) rfl dL_bestPosition_2 ?_
  refine J_iload_n rfl (i := 1) rfl dL_bestPosition_3 ?_
  refine J_iload_n rfl (i := 2) rfl dL_bestPosition_4 ?_
  refine J_callVc (as := [.int x1, .int x2]) (k := 0) (st := [.int 0, .ref 85]) cal_X9_bestPosition cai_X9_bestPosition gw_887 ⟨by decide, by decide⟩ cnt_X9_bestPosition sh_0 rfl rfl (Nat.le_of_ble_eq_true rfl) dL_bestPosition_5 ([] : List ExceptionTableEntry) ⟨0, 10, 13, 13⟩ [⟨0, 10, 17, 19⟩] rfl (fun y hy => by cases hy) (by decide) (by decide) gw_623 (List.mem_of_getElem? (i := 0) rfl) (a1 := 1) (b1 := 6) (a2 := 0) (b2 := 0) hct rfl rfl ?_
  refine Jq_astore (i := 4) (by decide) dL_bestPosition_13 ?_
  refine J_iconst (v := 1) (by decide) dL_bestPosition_15 ?_
  exact J_fini (ty := .int) rfl rfl dL_bestPosition_16 ⟨rfl, rfl⟩
theorem w2_bestPosition {G : Gx} {mm mm1 : Nat → Nat → Int32} {lm : Nat → Int64} {x1 : Int32} {x2 : Int32} (hct : Ct G M_X9_bestPosition [.ref 0, .int x1, .int x2] (SH, mm, lm) false (.inr "java/lang/IllegalArgumentException") (SH, mm1, lm) false 1 6) :
    Ct G M_L_bestPosition [.ref 0, .int x1, .int x2, .ref 85] (SH, mm, lm) false (.inl (some (.int 2))) (SH, mm1, lm) false 1 6 := by
  refine ct_of_JH (by decide +kernel) rfl (Nat.le_of_ble_eq_true rfl) ?_
  refine J_aload_n rfl (i := 3) rfl dL_bestPosition_0 ?_
  refine J_iconst (v := 0) (by decide) dL_bestPosition_1 ?_
  refine J_aload_n rfl (i := 0) rfl dL_bestPosition_2 ?_
  refine J_iload_n rfl (i := 1) rfl dL_bestPosition_3 ?_
  refine J_iload_n rfl (i := 2) rfl dL_bestPosition_4 ?_
  refine J_callVc (as := [.int x1, .int x2]) (k := 0) (st := [.int 0, .ref 85]) cal_X9_bestPosition cai_X9_bestPosition gw_887 ⟨by decide, by decide⟩ cnt_X9_bestPosition sh_0 rfl rfl (Nat.le_of_ble_eq_true rfl) dL_bestPosition_5 ([⟨0, 10, 13, 13⟩] : List ExceptionTableEntry) ⟨0, 10, 17, 19⟩ [] rfl (fun y hy => by
      rcases List.mem_cons.mp hy with rfl | hy
      · exact ⟨by decide, "java/lang/IllegalStateException", gw_623, List.mem_of_getElem? (i := 0) rfl⟩
      · cases hy) (by decide) (by decide) gw_702 (List.mem_of_getElem? (i := 1) rfl) (a1 := 1) (b1 := 6) (a2 := 0) (b2 := 0) hct rfl rfl ?_
  refine Jq_astore (i := 4) (by decide) dL_bestPosition_17 ?_
  refine J_iconst (v := 2) (by decide) dL_bestPosition_19 ?_
  exact J_fini (ty := .int) rfl rfl dL_bestPosition_20 ⟨rfl, rfl⟩
theorem w_mirroredTorque {G : Gx} {mm mm1 : Nat → Nat → Int32} {lm : Nat → Int64} {x1 : Int32} {v : Int32} (hct : Ct G M_X9_mirroredTorque [.ref 0, .int x1] (SH, mm, lm) false (.inl (some (.int v))) (SH, mm1, lm) false 1 6) :
    Ct G M_L_mirroredTorque [.ref 0, .int x1, .ref 85] (SH, mm, lm) false (.inl (some (.int 0))) (SH, mm1, vp_updL lm 0 v.toInt64) false 1 6 := by
  refine ct_of_JH (by decide +kernel) rfl (Nat.le_of_ble_eq_true rfl) ?_
  refine J_aload_n rfl (i := 2) rfl dL_mirroredTorque_0 ?_
  refine J_iconst (v := 0) (by decide) dL_mirroredTorque_1 ?_
  refine J_aload_n rfl (i := 0) rfl dL_mirroredTorque_2 ?_
  refine J_iload_n rfl (i := 1) rfl dL_mirroredTorque_3 ?_
  refine J_callV (as := [.int x1]) (k := 0) (st := [.int 0, .ref 85]) cal_X9_mirroredTorque cai_X9_mirroredTorque gw_900 ⟨by decide, by decide⟩ cnt_X9_mirroredTorque sh_0 rfl rfl (Nat.le_of_ble_eq_true rfl) dL_mirroredTorque_4 (a1 := 1) (b1 := 6) (a2 := 0) (b2 := 0) rfl rfl hct ?_
  refine J_i2l dL_mirroredTorque_7 ?_
  refine J_last sh_85 sh_out (by unfold vp_in; decide) dL_mirroredTorque_8 ?_
  refine J_goto (tgt := 18) dL_mirroredTorque_9 (by decide) ?_
  refine J_iconst (v := 0) (by decide) dL_mirroredTorque_18 ?_
  exact J_fini (ty := .int) rfl rfl dL_mirroredTorque_19 ⟨rfl, rfl⟩
theorem w1_mirroredTorque {G : Gx} {mm mm1 : Nat → Nat → Int32} {lm : Nat → Int64} {x1 : Int32} (hct : Ct G M_X9_mirroredTorque [.ref 0, .int x1] (SH, mm, lm) false (.inr "java/lang/IllegalStateException") (SH, mm1, lm) false 1 6) :
    Ct G M_L_mirroredTorque [.ref 0, .int x1, .ref 85] (SH, mm, lm) false (.inl (some (.int 1))) (SH, mm1, lm) false 1 6 := by
  refine ct_of_JH (by decide +kernel) rfl (Nat.le_of_ble_eq_true rfl) ?_
  refine J_aload_n rfl (i := 2) rfl dL_mirroredTorque_0 ?_
  refine J_iconst (v := 0) (by decide) dL_mirroredTorque_1 ?_
  refine J_aload_n rfl (i := 0) rfl dL_mirroredTorque_2 ?_
  refine J_iload_n rfl (i := 1) rfl dL_mirroredTorque_3 ?_
  refine J_callVc (as := [.int x1]) (k := 0) (st := [.int 0, .ref 85]) cal_X9_mirroredTorque cai_X9_mirroredTorque gw_900 ⟨by decide, by decide⟩ cnt_X9_mirroredTorque sh_0 rfl rfl (Nat.le_of_ble_eq_true rfl) dL_mirroredTorque_4 ([] : List ExceptionTableEntry) ⟨0, 9, 12, 13⟩ [⟨0, 9, 15, 19⟩] rfl (fun y hy => by cases hy) (by decide) (by decide) gw_623 (List.mem_of_getElem? (i := 0) rfl) (a1 := 1) (b1 := 6) (a2 := 0) (b2 := 0) hct rfl rfl ?_
  refine Jq_astore_n rfl (i := 3) (by decide) dL_mirroredTorque_12 ?_
  refine J_iconst (v := 1) (by decide) dL_mirroredTorque_13 ?_
  exact J_fini (ty := .int) rfl rfl dL_mirroredTorque_14 ⟨rfl, rfl⟩
theorem w2_mirroredTorque {G : Gx} {mm mm1 : Nat → Nat → Int32} {lm : Nat → Int64} {x1 : Int32} (hct : Ct G M_X9_mirroredTorque [.ref 0, .int x1] (SH, mm, lm) false (.inr "java/lang/IllegalArgumentException") (SH, mm1, lm) false 1 6) :
    Ct G M_L_mirroredTorque [.ref 0, .int x1, .ref 85] (SH, mm, lm) false (.inl (some (.int 2))) (SH, mm1, lm) false 1 6 := by
  refine ct_of_JH (by decide +kernel) rfl (Nat.le_of_ble_eq_true rfl) ?_
  refine J_aload_n rfl (i := 2) rfl dL_mirroredTorque_0 ?_
  refine J_iconst (v := 0) (by decide) dL_mirroredTorque_1 ?_
  refine J_aload_n rfl (i := 0) rfl dL_mirroredTorque_2 ?_
  refine J_iload_n rfl (i := 1) rfl dL_mirroredTorque_3 ?_
  refine J_callVc (as := [.int x1]) (k := 0) (st := [.int 0, .ref 85]) cal_X9_mirroredTorque cai_X9_mirroredTorque gw_900 ⟨by decide, by decide⟩ cnt_X9_mirroredTorque sh_0 rfl rfl (Nat.le_of_ble_eq_true rfl) dL_mirroredTorque_4 ([⟨0, 9, 12, 13⟩] : List ExceptionTableEntry) ⟨0, 9, 15, 19⟩ [] rfl (fun y hy => by
      rcases List.mem_cons.mp hy with rfl | hy
      · exact ⟨by decide, "java/lang/IllegalStateException", gw_623, List.mem_of_getElem? (i := 0) rfl⟩
      · cases hy) (by decide) (by decide) gw_702 (List.mem_of_getElem? (i := 1) rfl) (a1 := 1) (b1 := 6) (a2 := 0) (b2 := 0) hct rfl rfl ?_
  refine Jq_astore_n rfl (i := 3) (by decide) dL_mirroredTorque_15 ?_
  refine J_iconst (v := 2) (by decide) dL_mirroredTorque_16 ?_
  exact J_fini (ty := .int) rfl rfl dL_mirroredTorque_17 ⟨rfl, rfl⟩
theorem w_mirroredBells {G : Gx} {mm mm1 : Nat → Nat → Int32} {lm : Nat → Int64} {x1 : Int32} {v : Int32} (hct : Ct G M_X9_mirroredBells [.ref 0, .int x1] (SH, mm, lm) false (.inl (some (.int v))) (SH, mm1, lm) false 1 6) :
    Ct G M_L_mirroredBells [.ref 0, .int x1, .ref 85] (SH, mm, lm) false (.inl (some (.int 0))) (SH, mm1, vp_updL lm 0 v.toInt64) false 1 6 := by
  refine ct_of_JH (by decide +kernel) rfl (Nat.le_of_ble_eq_true rfl) ?_
  refine J_aload_n rfl (i := 2) rfl dL_mirroredBells_0 ?_
  refine J_iconst (v := 0) (by decide) dL_mirroredBells_1 ?_
  refine J_aload_n rfl (i := 0) rfl dL_mirroredBells_2 ?_
  refine J_iload_n rfl (i := 1) rfl dL_mirroredBells_3 ?_
  refine J_callV (as := [.int x1]) (k := 0) (st := [.int 0, .ref 85]) cal_X9_mirroredBells cai_X9_mirroredBells gw_935 ⟨by decide, by decide⟩ cnt_X9_mirroredBells sh_0 rfl rfl (Nat.le_of_ble_eq_true rfl) dL_mirroredBells_4 (a1 := 1) (b1 := 6) (a2 := 0) (b2 := 0) rfl rfl hct ?_
  refine J_i2l dL_mirroredBells_7 ?_
  refine J_last sh_85 sh_out (by unfold vp_in; decide) dL_mirroredBells_8 ?_
  refine J_goto (tgt := 18) dL_mirroredBells_9 (by decide) ?_
  refine J_iconst (v := 0) (by decide) dL_mirroredBells_18 ?_
  exact J_fini (ty := .int) rfl rfl dL_mirroredBells_19 ⟨rfl, rfl⟩
theorem w1_mirroredBells {G : Gx} {mm mm1 : Nat → Nat → Int32} {lm : Nat → Int64} {x1 : Int32} (hct : Ct G M_X9_mirroredBells [.ref 0, .int x1] (SH, mm, lm) false (.inr "java/lang/IllegalStateException") (SH, mm1, lm) false 1 6) :
    Ct G M_L_mirroredBells [.ref 0, .int x1, .ref 85] (SH, mm, lm) false (.inl (some (.int 1))) (SH, mm1, lm) false 1 6 := by
  refine ct_of_JH (by decide +kernel) rfl (Nat.le_of_ble_eq_true rfl) ?_
  refine J_aload_n rfl (i := 2) rfl dL_mirroredBells_0 ?_
  refine J_iconst (v := 0) (by decide) dL_mirroredBells_1 ?_
  refine J_aload_n rfl (i := 0) rfl dL_mirroredBells_2 ?_
  refine J_iload_n rfl (i := 1) rfl dL_mirroredBells_3 ?_
  refine J_callVc (as := [.int x1]) (k := 0) (st := [.int 0, .ref 85]) cal_X9_mirroredBells cai_X9_mirroredBells gw_935 ⟨by decide, by decide⟩ cnt_X9_mirroredBells sh_0 rfl rfl (Nat.le_of_ble_eq_true rfl) dL_mirroredBells_4 ([] : List ExceptionTableEntry) ⟨0, 9, 12, 13⟩ [⟨0, 9, 15, 19⟩] rfl (fun y hy => by cases hy) (by decide) (by decide) gw_623 (List.mem_of_getElem? (i := 0) rfl) (a1 := 1) (b1 := 6) (a2 := 0) (b2 := 0) hct rfl rfl ?_
  refine Jq_astore_n rfl (i := 3) (by decide) dL_mirroredBells_12 ?_
  refine J_iconst (v := 1) (by decide) dL_mirroredBells_13 ?_
  exact J_fini (ty := .int) rfl rfl dL_mirroredBells_14 ⟨rfl, rfl⟩
theorem w2_mirroredBells {G : Gx} {mm mm1 : Nat → Nat → Int32} {lm : Nat → Int64} {x1 : Int32} (hct : Ct G M_X9_mirroredBells [.ref 0, .int x1] (SH, mm, lm) false (.inr "java/lang/IllegalArgumentException") (SH, mm1, lm) false 1 6) :
    Ct G M_L_mirroredBells [.ref 0, .int x1, .ref 85] (SH, mm, lm) false (.inl (some (.int 2))) (SH, mm1, lm) false 1 6 := by
  refine ct_of_JH (by decide +kernel) rfl (Nat.le_of_ble_eq_true rfl) ?_
  refine J_aload_n rfl (i := 2) rfl dL_mirroredBells_0 ?_
  refine J_iconst (v := 0) (by decide) dL_mirroredBells_1 ?_
  refine J_aload_n rfl (i := 0) rfl dL_mirroredBells_2 ?_
  refine J_iload_n rfl (i := 1) rfl dL_mirroredBells_3 ?_
  refine J_callVc (as := [.int x1]) (k := 0) (st := [.int 0, .ref 85]) cal_X9_mirroredBells cai_X9_mirroredBells gw_935 ⟨by decide, by decide⟩ cnt_X9_mirroredBells sh_0 rfl rfl (Nat.le_of_ble_eq_true rfl) dL_mirroredBells_4 ([⟨0, 9, 12, 13⟩] : List ExceptionTableEntry) ⟨0, 9, 15, 19⟩ [] rfl (fun y hy => by
      rcases List.mem_cons.mp hy with rfl | hy
      · exact ⟨by decide, "java/lang/IllegalStateException", gw_623, List.mem_of_getElem? (i := 0) rfl⟩
      · cases hy) (by decide) (by decide) gw_702 (List.mem_of_getElem? (i := 1) rfl) (a1 := 1) (b1 := 6) (a2 := 0) (b2 := 0) hct rfl rfl ?_
  refine Jq_astore_n rfl (i := 3) (by decide) dL_mirroredBells_15 ?_
  refine J_iconst (v := 2) (by decide) dL_mirroredBells_16 ?_
  exact J_fini (ty := .int) rfl rfl dL_mirroredBells_17 ⟨rfl, rfl⟩
theorem w_setPlan {G : Gx} {mm mm1 : Nat → Nat → Int32} {lm : Nat → Int64} {x1 : Int32} {x2 : Int32} {x3 : Int32} {v : Int32} (hct : Ct G M_X9_setPlan [.ref 0, .int x1, .int x2, .int x3] (SH, mm, lm) false (.inl (some (.int v))) (SH, mm1, lm) false 1 6) :
    Ct G M_L_setPlan [.ref 0, .int x1, .int x2, .int x3, .ref 85] (SH, mm, lm) false (.inl (some (.int 0))) (SH, mm1, vp_updL lm 0 v.toInt64) false 1 6 := by
  refine ct_of_JH (by decide +kernel) rfl (Nat.le_of_ble_eq_true rfl) ?_
  refine J_aload (i := 4) rfl dL_setPlan_0 ?_
  refine J_iconst (v := 0) (by decide) dL_setPlan_2 ?_
  refine J_aload_n rfl (i := 0) rfl dL_setPlan_3 ?_
  refine J_iload_n rfl (i := 1) rfl dL_setPlan_4 ?_
  refine J_iload_n rfl (i := 2) rfl dL_setPlan_5 ?_
  refine J_iload_n rfl (i := 3) rfl dL_setPlan_6 ?_
  refine J_callV (as := [.int x1, .int x2, .int x3]) (k := 0) (st := [.int 0, .ref 85]) cal_X9_setPlan cai_X9_setPlan gw_942 ⟨by decide, by decide⟩ cnt_X9_setPlan sh_0 rfl rfl (Nat.le_of_ble_eq_true rfl) dL_setPlan_7 (a1 := 1) (b1 := 6) (a2 := 0) (b2 := 0) rfl rfl hct ?_
  refine J_i2l dL_setPlan_10 ?_
  refine J_last sh_85 sh_out (by unfold vp_in; decide) dL_setPlan_11 ?_
  refine J_goto (tgt := 23) dL_setPlan_12 (by decide) ?_
  refine J_iconst (v := 0) (by decide) dL_setPlan_23 ?_
  exact J_fini (ty := .int) rfl rfl dL_setPlan_24 ⟨rfl, rfl⟩
theorem w1_setPlan {G : Gx} {mm mm1 : Nat → Nat → Int32} {lm : Nat → Int64} {x1 : Int32} {x2 : Int32} {x3 : Int32} (hct : Ct G M_X9_setPlan [.ref 0, .int x1, .int x2, .int x3] (SH, mm, lm) false (.inr "java/lang/IllegalStateException") (SH, mm1, lm) false 1 6) :
    Ct G M_L_setPlan [.ref 0, .int x1, .int x2, .int x3, .ref 85] (SH, mm, lm) false (.inl (some (.int 1))) (SH, mm1, lm) false 1 6 := by
  refine ct_of_JH (by decide +kernel) rfl (Nat.le_of_ble_eq_true rfl) ?_
  refine J_aload (i := 4) rfl dL_setPlan_0 ?_
  refine J_iconst (v := 0) (by decide) dL_setPlan_2 ?_
  refine J_aload_n rfl (i := 0) rfl dL_setPlan_3 ?_
  refine J_iload_n rfl (i := 1) rfl dL_setPlan_4 ?_
  refine J_iload_n rfl (i := 2) rfl dL_setPlan_5 ?_
  refine J_iload_n rfl (i := 3) rfl dL_setPlan_6 ?_
  refine J_callVc (as := [.int x1, .int x2, .int x3]) (k := 0) (st := [.int 0, .ref 85]) cal_X9_setPlan cai_X9_setPlan gw_942 ⟨by decide, by decide⟩ cnt_X9_setPlan sh_0 rfl rfl (Nat.le_of_ble_eq_true rfl) dL_setPlan_7 ([] : List ExceptionTableEntry) ⟨0, 12, 15, 13⟩ [⟨0, 12, 19, 19⟩] rfl (fun y hy => by cases hy) (by decide) (by decide) gw_623 (List.mem_of_getElem? (i := 0) rfl) (a1 := 1) (b1 := 6) (a2 := 0) (b2 := 0) hct rfl rfl ?_
  refine Jq_astore (i := 5) (by decide) dL_setPlan_15 ?_
  refine J_iconst (v := 1) (by decide) dL_setPlan_17 ?_
  exact J_fini (ty := .int) rfl rfl dL_setPlan_18 ⟨rfl, rfl⟩
theorem w2_setPlan {G : Gx} {mm mm1 : Nat → Nat → Int32} {lm : Nat → Int64} {x1 : Int32} {x2 : Int32} {x3 : Int32} (hct : Ct G M_X9_setPlan [.ref 0, .int x1, .int x2, .int x3] (SH, mm, lm) false (.inr "java/lang/IllegalArgumentException") (SH, mm1, lm) false 1 6) :
    Ct G M_L_setPlan [.ref 0, .int x1, .int x2, .int x3, .ref 85] (SH, mm, lm) false (.inl (some (.int 2))) (SH, mm1, lm) false 1 6 := by
  refine ct_of_JH (by decide +kernel) rfl (Nat.le_of_ble_eq_true rfl) ?_
  refine J_aload (i := 4) rfl dL_setPlan_0 ?_
  refine J_iconst (v := 0) (by decide) dL_setPlan_2 ?_
  refine J_aload_n rfl (i := 0) rfl dL_setPlan_3 ?_
  refine J_iload_n rfl (i := 1) rfl dL_setPlan_4 ?_
  refine J_iload_n rfl (i := 2) rfl dL_setPlan_5 ?_
  refine J_iload_n rfl (i := 3) rfl dL_setPlan_6 ?_
  refine J_callVc (as := [.int x1, .int x2, .int x3]) (k := 0) (st := [.int 0, .ref 85]) cal_X9_setPlan cai_X9_setPlan gw_942 ⟨by decide, by decide⟩ cnt_X9_setPlan sh_0 rfl rfl (Nat.le_of_ble_eq_true rfl) dL_setPlan_7 ([⟨0, 12, 15, 13⟩] : List ExceptionTableEntry) ⟨0, 12, 19, 19⟩ [] rfl (fun y hy => by
      rcases List.mem_cons.mp hy with rfl | hy
      · exact ⟨by decide, "java/lang/IllegalStateException", gw_623, List.mem_of_getElem? (i := 0) rfl⟩
      · cases hy) (by decide) (by decide) gw_702 (List.mem_of_getElem? (i := 1) rfl) (a1 := 1) (b1 := 6) (a2 := 0) (b2 := 0) hct rfl rfl ?_
  refine Jq_astore (i := 5) (by decide) dL_setPlan_19 ?_
  refine J_iconst (v := 2) (by decide) dL_setPlan_21 ?_
  exact J_fini (ty := .int) rfl rfl dL_setPlan_22 ⟨rfl, rfl⟩
theorem w_clearPlan {G : Gx} {mm mm1 : Nat → Nat → Int32} {lm : Nat → Int64} {x1 : Int32} {v : Int32} (hct : Ct G M_X9_clearPlan [.ref 0, .int x1] (SH, mm, lm) false (.inl (some (.int v))) (SH, mm1, lm) false 1 6) :
    Ct G M_L_clearPlan [.ref 0, .int x1, .ref 85] (SH, mm, lm) false (.inl (some (.int 0))) (SH, mm1, vp_updL lm 0 v.toInt64) false 1 6 := by
  refine ct_of_JH (by decide +kernel) rfl (Nat.le_of_ble_eq_true rfl) ?_
  refine J_aload_n rfl (i := 2) rfl dL_clearPlan_0 ?_
  refine J_iconst (v := 0) (by decide) dL_clearPlan_1 ?_
  refine J_aload_n rfl (i := 0) rfl dL_clearPlan_2 ?_
  refine J_iload_n rfl (i := 1) rfl dL_clearPlan_3 ?_
  refine J_callV (as := [.int x1]) (k := 0) (st := [.int 0, .ref 85]) cal_X9_clearPlan cai_X9_clearPlan gw_957 ⟨by decide, by decide⟩ cnt_X9_clearPlan sh_0 rfl rfl (Nat.le_of_ble_eq_true rfl) dL_clearPlan_4 (a1 := 1) (b1 := 6) (a2 := 0) (b2 := 0) rfl rfl hct ?_
  refine J_i2l dL_clearPlan_7 ?_
  refine J_last sh_85 sh_out (by unfold vp_in; decide) dL_clearPlan_8 ?_
  refine J_goto (tgt := 18) dL_clearPlan_9 (by decide) ?_
  refine J_iconst (v := 0) (by decide) dL_clearPlan_18 ?_
  exact J_fini (ty := .int) rfl rfl dL_clearPlan_19 ⟨rfl, rfl⟩
theorem w1_clearPlan {G : Gx} {mm mm1 : Nat → Nat → Int32} {lm : Nat → Int64} {x1 : Int32} (hct : Ct G M_X9_clearPlan [.ref 0, .int x1] (SH, mm, lm) false (.inr "java/lang/IllegalStateException") (SH, mm1, lm) false 1 6) :
    Ct G M_L_clearPlan [.ref 0, .int x1, .ref 85] (SH, mm, lm) false (.inl (some (.int 1))) (SH, mm1, lm) false 1 6 := by
  refine ct_of_JH (by decide +kernel) rfl (Nat.le_of_ble_eq_true rfl) ?_
  refine J_aload_n rfl (i := 2) rfl dL_clearPlan_0 ?_
  refine J_iconst (v := 0) (by decide) dL_clearPlan_1 ?_
  refine J_aload_n rfl (i := 0) rfl dL_clearPlan_2 ?_
  refine J_iload_n rfl (i := 1) rfl dL_clearPlan_3 ?_
  refine J_callVc (as := [.int x1]) (k := 0) (st := [.int 0, .ref 85]) cal_X9_clearPlan cai_X9_clearPlan gw_957 ⟨by decide, by decide⟩ cnt_X9_clearPlan sh_0 rfl rfl (Nat.le_of_ble_eq_true rfl) dL_clearPlan_4 ([] : List ExceptionTableEntry) ⟨0, 9, 12, 13⟩ [⟨0, 9, 15, 19⟩] rfl (fun y hy => by cases hy) (by decide) (by decide) gw_623 (List.mem_of_getElem? (i := 0) rfl) (a1 := 1) (b1 := 6) (a2 := 0) (b2 := 0) hct rfl rfl ?_
  refine Jq_astore_n rfl (i := 3) (by decide) dL_clearPlan_12 ?_
  refine J_iconst (v := 1) (by decide) dL_clearPlan_13 ?_
  exact J_fini (ty := .int) rfl rfl dL_clearPlan_14 ⟨rfl, rfl⟩
theorem w2_clearPlan {G : Gx} {mm mm1 : Nat → Nat → Int32} {lm : Nat → Int64} {x1 : Int32} (hct : Ct G M_X9_clearPlan [.ref 0, .int x1] (SH, mm, lm) false (.inr "java/lang/IllegalArgumentException") (SH, mm1, lm) false 1 6) :
    Ct G M_L_clearPlan [.ref 0, .int x1, .ref 85] (SH, mm, lm) false (.inl (some (.int 2))) (SH, mm1, lm) false 1 6 := by
  refine ct_of_JH (by decide +kernel) rfl (Nat.le_of_ble_eq_true rfl) ?_
  refine J_aload_n rfl (i := 2) rfl dL_clearPlan_0 ?_
  refine J_iconst (v := 0) (by decide) dL_clearPlan_1 ?_
  refine J_aload_n rfl (i := 0) rfl dL_clearPlan_2 ?_
  refine J_iload_n rfl (i := 1) rfl dL_clearPlan_3 ?_
  refine J_callVc (as := [.int x1]) (k := 0) (st := [.int 0, .ref 85]) cal_X9_clearPlan cai_X9_clearPlan gw_957 ⟨by decide, by decide⟩ cnt_X9_clearPlan sh_0 rfl rfl (Nat.le_of_ble_eq_true rfl) dL_clearPlan_4 ([⟨0, 9, 12, 13⟩] : List ExceptionTableEntry) ⟨0, 9, 15, 19⟩ [] rfl (fun y hy => by
      rcases List.mem_cons.mp hy with rfl | hy
      · exact ⟨by decide, "java/lang/IllegalStateException", gw_623, List.mem_of_getElem? (i := 0) rfl⟩
      · cases hy) (by decide) (by decide) gw_702 (List.mem_of_getElem? (i := 1) rfl) (a1 := 1) (b1 := 6) (a2 := 0) (b2 := 0) hct rfl rfl ?_
  refine Jq_astore_n rfl (i := 3) (by decide) dL_clearPlan_15 ?_
  refine J_iconst (v := 2) (by decide) dL_clearPlan_16 ?_
  exact J_fini (ty := .int) rfl rfl dL_clearPlan_17 ⟨rfl, rfl⟩
theorem w_planConflicts {G : Gx} {mm mm1 : Nat → Nat → Int32} {lm : Nat → Int64}  {v : Int32} (hct : Ct G M_X9_planConflicts [.ref 0] (SH, mm, lm) false (.inl (some (.int v))) (SH, mm1, lm) false 1 6) :
    Ct G M_L_planConflicts [.ref 0, .ref 85] (SH, mm, lm) false (.inl (some (.int 0))) (SH, mm1, vp_updL lm 0 v.toInt64) false 1 6 := by
  refine ct_of_JH (by decide +kernel) rfl (Nat.le_of_ble_eq_true rfl) ?_
  refine J_aload_n rfl (i := 1) rfl dL_planConflicts_0 ?_
  refine J_iconst (v := 0) (by decide) dL_planConflicts_1 ?_
  refine J_aload_n rfl (i := 0) rfl dL_planConflicts_2 ?_
  refine J_callV (as := []) (k := 0) (st := [.int 0, .ref 85]) cal_X9_planConflicts cai_X9_planConflicts gw_965 ⟨by decide, by decide⟩ cnt_X9_planConflicts sh_0 rfl rfl (Nat.le_of_ble_eq_true rfl) dL_planConflicts_3 (a1 := 1) (b1 := 6) (a2 := 0) (b2 := 0) rfl rfl hct ?_
  refine J_i2l dL_planConflicts_6 ?_
  refine J_last sh_85 sh_out (by unfold vp_in; decide) dL_planConflicts_7 ?_
  refine J_goto (tgt := 14) dL_planConflicts_8 (by decide) ?_
  refine J_iconst (v := 0) (by decide) dL_planConflicts_14 ?_
  exact J_fini (ty := .int) rfl rfl dL_planConflicts_15 ⟨rfl, rfl⟩
theorem w1_planConflicts {G : Gx} {mm mm1 : Nat → Nat → Int32} {lm : Nat → Int64}  (hct : Ct G M_X9_planConflicts [.ref 0] (SH, mm, lm) false (.inr "java/lang/IllegalStateException") (SH, mm1, lm) false 1 6) :
    Ct G M_L_planConflicts [.ref 0, .ref 85] (SH, mm, lm) false (.inl (some (.int 1))) (SH, mm1, lm) false 1 6 := by
  refine ct_of_JH (by decide +kernel) rfl (Nat.le_of_ble_eq_true rfl) ?_
  refine J_aload_n rfl (i := 1) rfl dL_planConflicts_0 ?_
  refine J_iconst (v := 0) (by decide) dL_planConflicts_1 ?_
  refine J_aload_n rfl (i := 0) rfl dL_planConflicts_2 ?_
  refine J_callVc (as := []) (k := 0) (st := [.int 0, .ref 85]) cal_X9_planConflicts cai_X9_planConflicts gw_965 ⟨by decide, by decide⟩ cnt_X9_planConflicts sh_0 rfl rfl (Nat.le_of_ble_eq_true rfl) dL_planConflicts_3 ([] : List ExceptionTableEntry) ⟨0, 8, 11, 13⟩ [] rfl (fun y hy => by cases hy) (by decide) (by decide) gw_623 (List.mem_of_getElem? (i := 0) rfl) (a1 := 1) (b1 := 6) (a2 := 0) (b2 := 0) hct rfl rfl ?_
  refine Jq_astore_n rfl (i := 2) (by decide) dL_planConflicts_11 ?_
  refine J_iconst (v := 1) (by decide) dL_planConflicts_12 ?_
  exact J_fini (ty := .int) rfl rfl dL_planConflicts_13 ⟨rfl, rfl⟩
theorem w_planUnbalanced {G : Gx} {mm mm1 : Nat → Nat → Int32} {lm : Nat → Int64}  {v : Int32} (hct : Ct G M_X9_planUnbalanced [.ref 0] (SH, mm, lm) false (.inl (some (.int v))) (SH, mm1, lm) false 1 6) :
    Ct G M_L_planUnbalanced [.ref 0, .ref 85] (SH, mm, lm) false (.inl (some (.int 0))) (SH, mm1, vp_updL lm 0 v.toInt64) false 1 6 := by
  refine ct_of_JH (by decide +kernel) rfl (Nat.le_of_ble_eq_true rfl) ?_
  refine J_aload_n rfl (i := 1) rfl dL_planUnbalanced_0 ?_
  refine J_iconst (v := 0) (by decide) dL_planUnbalanced_1 ?_
  refine J_aload_n rfl (i := 0) rfl dL_planUnbalanced_2 ?_
  refine J_callV (as := []) (k := 0) (st := [.int 0, .ref 85]) cal_X9_planUnbalanced cai_X9_planUnbalanced gw_1003 ⟨by decide, by decide⟩ cnt_X9_planUnbalanced sh_0 rfl rfl (Nat.le_of_ble_eq_true rfl) dL_planUnbalanced_3 (a1 := 1) (b1 := 6) (a2 := 0) (b2 := 0) rfl rfl hct ?_
  refine J_i2l dL_planUnbalanced_6 ?_
  refine J_last sh_85 sh_out (by unfold vp_in; decide) dL_planUnbalanced_7 ?_
  refine J_goto (tgt := 14) dL_planUnbalanced_8 (by decide) ?_
  refine J_iconst (v := 0) (by decide) dL_planUnbalanced_14 ?_
  exact J_fini (ty := .int) rfl rfl dL_planUnbalanced_15 ⟨rfl, rfl⟩
theorem w1_planUnbalanced {G : Gx} {mm mm1 : Nat → Nat → Int32} {lm : Nat → Int64}  (hct : Ct G M_X9_planUnbalanced [.ref 0] (SH, mm, lm) false (.inr "java/lang/IllegalStateException") (SH, mm1, lm) false 1 6) :
    Ct G M_L_planUnbalanced [.ref 0, .ref 85] (SH, mm, lm) false (.inl (some (.int 1))) (SH, mm1, lm) false 1 6 := by
  refine ct_of_JH (by decide +kernel) rfl (Nat.le_of_ble_eq_true rfl) ?_
  refine J_aload_n rfl (i := 1) rfl dL_planUnbalanced_0 ?_
  refine J_iconst (v := 0) (by decide) dL_planUnbalanced_1 ?_
  refine J_aload_n rfl (i := 0) rfl dL_planUnbalanced_2 ?_
  refine J_callVc (as := []) (k := 0) (st := [.int 0, .ref 85]) cal_X9_planUnbalanced cai_X9_planUnbalanced gw_1003 ⟨by decide, by decide⟩ cnt_X9_planUnbalanced sh_0 rfl rfl (Nat.le_of_ble_eq_true rfl) dL_planUnbalanced_3 ([] : List ExceptionTableEntry) ⟨0, 8, 11, 13⟩ [] rfl (fun y hy => by cases hy) (by decide) (by decide) gw_623 (List.mem_of_getElem? (i := 0) rfl) (a1 := 1) (b1 := 6) (a2 := 0) (b2 := 0) hct rfl rfl ?_
  refine Jq_astore_n rfl (i := 2) (by decide) dL_planUnbalanced_11 ?_
  refine J_iconst (v := 1) (by decide) dL_planUnbalanced_12 ?_
  exact J_fini (ty := .int) rfl rfl dL_planUnbalanced_13 ⟨rfl, rfl⟩
theorem w_stepsToPlan {G : Gx} {mm mm1 : Nat → Nat → Int32} {lm : Nat → Int64}  {v : Int32} (hct : Ct G M_X9_stepsToPlan [.ref 0] (SH, mm, lm) false (.inl (some (.int v))) (SH, mm1, lm) false 1 6) :
    Ct G M_L_stepsToPlan [.ref 0, .ref 85] (SH, mm, lm) false (.inl (some (.int 0))) (SH, mm1, vp_updL lm 0 v.toInt64) false 1 6 := by
  refine ct_of_JH (by decide +kernel) rfl (Nat.le_of_ble_eq_true rfl) ?_
  refine J_aload_n rfl (i := 1) rfl dL_stepsToPlan_0 ?_
  refine J_iconst (v := 0) (by decide) dL_stepsToPlan_1 ?_
  refine J_aload_n rfl (i := 0) rfl dL_stepsToPlan_2 ?_
  refine J_callV (as := []) (k := 0) (st := [.int 0, .ref 85]) cal_X9_stepsToPlan cai_X9_stepsToPlan gw_1019 ⟨by decide, by decide⟩ cnt_X9_stepsToPlan sh_0 rfl rfl (Nat.le_of_ble_eq_true rfl) dL_stepsToPlan_3 (a1 := 1) (b1 := 6) (a2 := 0) (b2 := 0) rfl rfl hct ?_
  refine J_i2l dL_stepsToPlan_6 ?_
  refine J_last sh_85 sh_out (by unfold vp_in; decide) dL_stepsToPlan_7 ?_
  refine J_goto (tgt := 14) dL_stepsToPlan_8 (by decide) ?_
  refine J_iconst (v := 0) (by decide) dL_stepsToPlan_14 ?_
  exact J_fini (ty := .int) rfl rfl dL_stepsToPlan_15 ⟨rfl, rfl⟩
theorem w1_stepsToPlan {G : Gx} {mm mm1 : Nat → Nat → Int32} {lm : Nat → Int64}  (hct : Ct G M_X9_stepsToPlan [.ref 0] (SH, mm, lm) false (.inr "java/lang/IllegalStateException") (SH, mm1, lm) false 1 6) :
    Ct G M_L_stepsToPlan [.ref 0, .ref 85] (SH, mm, lm) false (.inl (some (.int 1))) (SH, mm1, lm) false 1 6 := by
  refine ct_of_JH (by decide +kernel) rfl (Nat.le_of_ble_eq_true rfl) ?_
  refine J_aload_n rfl (i := 1) rfl dL_stepsToPlan_0 ?_
  refine J_iconst (v := 0) (by decide) dL_stepsToPlan_1 ?_
  refine J_aload_n rfl (i := 0) rfl dL_stepsToPlan_2 ?_
  refine J_callVc (as := []) (k := 0) (st := [.int 0, .ref 85]) cal_X9_stepsToPlan cai_X9_stepsToPlan gw_1019 ⟨by decide, by decide⟩ cnt_X9_stepsToPlan sh_0 rfl rfl (Nat.le_of_ble_eq_true rfl) dL_stepsToPlan_3 ([] : List ExceptionTableEntry) ⟨0, 8, 11, 13⟩ [] rfl (fun y hy => by cases hy) (by decide) (by decide) gw_623 (List.mem_of_getElem? (i := 0) rfl) (a1 := 1) (b1 := 6) (a2 := 0) (b2 := 0) hct rfl rfl ?_
  refine Jq_astore_n rfl (i := 2) (by decide) dL_stepsToPlan_11 ?_
  refine J_iconst (v := 1) (by decide) dL_stepsToPlan_12 ?_
  exact J_fini (ty := .int) rfl rfl dL_stepsToPlan_13 ⟨rfl, rfl⟩
theorem w_planStep {G : Gx} {mm mm1 : Nat → Nat → Int32} {lm : Nat → Int64} {x1 : Int32} {v : Int32} (hct : Ct G M_X9_planStep [.ref 0, .int x1] (SH, mm, lm) false (.inl (some (.int v))) (SH, mm1, lm) false 1 6) :
    Ct G M_L_planStep [.ref 0, .int x1, .ref 85] (SH, mm, lm) false (.inl (some (.int 0))) (SH, mm1, vp_updL lm 0 v.toInt64) false 1 6 := by
  refine ct_of_JH (by decide +kernel) rfl (Nat.le_of_ble_eq_true rfl) ?_
  refine J_aload_n rfl (i := 2) rfl dL_planStep_0 ?_
  refine J_iconst (v := 0) (by decide) dL_planStep_1 ?_
  refine J_aload_n rfl (i := 0) rfl dL_planStep_2 ?_
  refine J_iload_n rfl (i := 1) rfl dL_planStep_3 ?_
  refine J_callV (as := [.int x1]) (k := 0) (st := [.int 0, .ref 85]) cal_X9_planStep cai_X9_planStep gw_1054 ⟨by decide, by decide⟩ cnt_X9_planStep sh_0 rfl rfl (Nat.le_of_ble_eq_true rfl) dL_planStep_4 (a1 := 1) (b1 := 6) (a2 := 0) (b2 := 0) rfl rfl hct ?_
  refine J_i2l dL_planStep_7 ?_
  refine J_last sh_85 sh_out (by unfold vp_in; decide) dL_planStep_8 ?_
  refine J_goto (tgt := 18) dL_planStep_9 (by decide) ?_
  refine J_iconst (v := 0) (by decide) dL_planStep_18 ?_
  exact J_fini (ty := .int) rfl rfl dL_planStep_19 ⟨rfl, rfl⟩
theorem w1_planStep {G : Gx} {mm mm1 : Nat → Nat → Int32} {lm : Nat → Int64} {x1 : Int32} (hct : Ct G M_X9_planStep [.ref 0, .int x1] (SH, mm, lm) false (.inr "java/lang/IllegalStateException") (SH, mm1, lm) false 1 6) :
    Ct G M_L_planStep [.ref 0, .int x1, .ref 85] (SH, mm, lm) false (.inl (some (.int 1))) (SH, mm1, lm) false 1 6 := by
  refine ct_of_JH (by decide +kernel) rfl (Nat.le_of_ble_eq_true rfl) ?_
  refine J_aload_n rfl (i := 2) rfl dL_planStep_0 ?_
  refine J_iconst (v := 0) (by decide) dL_planStep_1 ?_
  refine J_aload_n rfl (i := 0) rfl dL_planStep_2 ?_
  refine J_iload_n rfl (i := 1) rfl dL_planStep_3 ?_
  refine J_callVc (as := [.int x1]) (k := 0) (st := [.int 0, .ref 85]) cal_X9_planStep cai_X9_planStep gw_1054 ⟨by decide, by decide⟩ cnt_X9_planStep sh_0 rfl rfl (Nat.le_of_ble_eq_true rfl) dL_planStep_4 ([] : List ExceptionTableEntry) ⟨0, 9, 12, 13⟩ [⟨0, 9, 15, 19⟩] rfl (fun y hy => by cases hy) (by decide) (by decide) gw_623 (List.mem_of_getElem? (i := 0) rfl) (a1 := 1) (b1 := 6) (a2 := 0) (b2 := 0) hct rfl rfl ?_
  refine Jq_astore_n rfl (i := 3) (by decide) dL_planStep_12 ?_
  refine J_iconst (v := 1) (by decide) dL_planStep_13 ?_
  exact J_fini (ty := .int) rfl rfl dL_planStep_14 ⟨rfl, rfl⟩
theorem w2_planStep {G : Gx} {mm mm1 : Nat → Nat → Int32} {lm : Nat → Int64} {x1 : Int32} (hct : Ct G M_X9_planStep [.ref 0, .int x1] (SH, mm, lm) false (.inr "java/lang/IllegalArgumentException") (SH, mm1, lm) false 1 6) :
    Ct G M_L_planStep [.ref 0, .int x1, .ref 85] (SH, mm, lm) false (.inl (some (.int 2))) (SH, mm1, lm) false 1 6 := by
  refine ct_of_JH (by decide +kernel) rfl (Nat.le_of_ble_eq_true rfl) ?_
  refine J_aload_n rfl (i := 2) rfl dL_planStep_0 ?_
  refine J_iconst (v := 0) (by decide) dL_planStep_1 ?_
  refine J_aload_n rfl (i := 0) rfl dL_planStep_2 ?_
  refine J_iload_n rfl (i := 1) rfl dL_planStep_3 ?_
  refine J_callVc (as := [.int x1]) (k := 0) (st := [.int 0, .ref 85]) cal_X9_planStep cai_X9_planStep gw_1054 ⟨by decide, by decide⟩ cnt_X9_planStep sh_0 rfl rfl (Nat.le_of_ble_eq_true rfl) dL_planStep_4 ([⟨0, 9, 12, 13⟩] : List ExceptionTableEntry) ⟨0, 9, 15, 19⟩ [] rfl (fun y hy => by
      rcases List.mem_cons.mp hy with rfl | hy
      · exact ⟨by decide, "java/lang/IllegalStateException", gw_623, List.mem_of_getElem? (i := 0) rfl⟩
      · cases hy) (by decide) (by decide) gw_702 (List.mem_of_getElem? (i := 1) rfl) (a1 := 1) (b1 := 6) (a2 := 0) (b2 := 0) hct rfl rfl ?_
  refine Jq_astore_n rfl (i := 3) (by decide) dL_planStep_15 ?_
  refine J_iconst (v := 2) (by decide) dL_planStep_16 ?_
  exact J_fini (ty := .int) rfl rfl dL_planStep_17 ⟨rfl, rfl⟩
theorem w_startSwing {G : Gx} {mm mm1 : Nat → Nat → Int32} {lm : Nat → Int64} {x1 : Int32} {x2 : Int32} {x3 : Int32} {v : Int32} (hct : Ct G M_X9_startSwing [.ref 0, .int x1, .int x2, .int x3] (SH, mm, lm) false (.inl (some (.int v))) (SH, mm1, lm) false 1 6) :
    Ct G M_L_startSwing [.ref 0, .int x1, .int x2, .int x3, .ref 85] (SH, mm, lm) false (.inl (some (.int 0))) (SH, mm1, vp_updL lm 0 v.toInt64) false 1 6 := by
  refine ct_of_JH (by decide +kernel) rfl (Nat.le_of_ble_eq_true rfl) ?_
  refine J_aload (i := 4) rfl dL_startSwing_0 ?_
  refine J_iconst (v := 0) (by decide) dL_startSwing_2 ?_
  refine J_aload_n rfl (i := 0) rfl dL_startSwing_3 ?_
  refine J_iload_n rfl (i := 1) rfl dL_startSwing_4 ?_
  refine J_iload_n rfl (i := 2) rfl dL_startSwing_5 ?_
  refine J_iload_n rfl (i := 3) rfl dL_startSwing_6 ?_
  refine J_callV (as := [.int x1, .int x2, .int x3]) (k := 0) (st := [.int 0, .ref 85]) cal_X9_startSwing cai_X9_startSwing gw_1066 ⟨by decide, by decide⟩ cnt_X9_startSwing sh_0 rfl rfl (Nat.le_of_ble_eq_true rfl) dL_startSwing_7 (a1 := 1) (b1 := 6) (a2 := 0) (b2 := 0) rfl rfl hct ?_
  refine J_i2l dL_startSwing_10 ?_
  refine J_last sh_85 sh_out (by unfold vp_in; decide) dL_startSwing_11 ?_
  refine J_goto (tgt := 23) dL_startSwing_12 (by decide) ?_
  refine J_iconst (v := 0) (by decide) dL_startSwing_23 ?_
  exact J_fini (ty := .int) rfl rfl dL_startSwing_24 ⟨rfl, rfl⟩
theorem w1_startSwing {G : Gx} {mm mm1 : Nat → Nat → Int32} {lm : Nat → Int64} {x1 : Int32} {x2 : Int32} {x3 : Int32} (hct : Ct G M_X9_startSwing [.ref 0, .int x1, .int x2, .int x3] (SH, mm, lm) false (.inr "java/lang/IllegalStateException") (SH, mm1, lm) false 1 6) :
    Ct G M_L_startSwing [.ref 0, .int x1, .int x2, .int x3, .ref 85] (SH, mm, lm) false (.inl (some (.int 1))) (SH, mm1, lm) false 1 6 := by
  refine ct_of_JH (by decide +kernel) rfl (Nat.le_of_ble_eq_true rfl) ?_
  refine J_aload (i := 4) rfl dL_startSwing_0 ?_
  refine J_iconst (v := 0) (by decide) dL_startSwing_2 ?_
  refine J_aload_n rfl (i := 0) rfl dL_startSwing_3 ?_
  refine J_iload_n rfl (i := 1) rfl dL_startSwing_4 ?_
  refine J_iload_n rfl (i := 2) rfl dL_startSwing_5 ?_
  refine J_iload_n rfl (i := 3) rfl dL_startSwing_6 ?_
  refine J_callVc (as := [.int x1, .int x2, .int x3]) (k := 0) (st := [.int 0, .ref 85]) cal_X9_startSwing cai_X9_startSwing gw_1066 ⟨by decide, by decide⟩ cnt_X9_startSwing sh_0 rfl rfl (Nat.le_of_ble_eq_true rfl) dL_startSwing_7 ([] : List ExceptionTableEntry) ⟨0, 12, 15, 13⟩ [⟨0, 12, 19, 19⟩] rfl (fun y hy => by cases hy) (by decide) (by decide) gw_623 (List.mem_of_getElem? (i := 0) rfl) (a1 := 1) (b1 := 6) (a2 := 0) (b2 := 0) hct rfl rfl ?_
  refine Jq_astore (i := 5) (by decide) dL_startSwing_15 ?_
  refine J_iconst (v := 1) (by decide) dL_startSwing_17 ?_
  exact J_fini (ty := .int) rfl rfl dL_startSwing_18 ⟨rfl, rfl⟩
theorem w2_startSwing {G : Gx} {mm mm1 : Nat → Nat → Int32} {lm : Nat → Int64} {x1 : Int32} {x2 : Int32} {x3 : Int32} (hct : Ct G M_X9_startSwing [.ref 0, .int x1, .int x2, .int x3] (SH, mm, lm) false (.inr "java/lang/IllegalArgumentException") (SH, mm1, lm) false 1 6) :
    Ct G M_L_startSwing [.ref 0, .int x1, .int x2, .int x3, .ref 85] (SH, mm, lm) false (.inl (some (.int 2))) (SH, mm1, lm) false 1 6 := by
  refine ct_of_JH (by decide +kernel) rfl (Nat.le_of_ble_eq_true rfl) ?_
  refine J_aload (i := 4) rfl dL_startSwing_0 ?_
  refine J_iconst (v := 0) (by decide) dL_startSwing_2 ?_
  refine J_aload_n rfl (i := 0) rfl dL_startSwing_3 ?_
  refine J_iload_n rfl (i := 1) rfl dL_startSwing_4 ?_
  refine J_iload_n rfl (i := 2) rfl dL_startSwing_5 ?_
  refine J_iload_n rfl (i := 3) rfl dL_startSwing_6 ?_
  refine J_callVc (as := [.int x1, .int x2, .int x3]) (k := 0) (st := [.int 0, .ref 85]) cal_X9_startSwing cai_X9_startSwing gw_1066 ⟨by decide, by decide⟩ cnt_X9_startSwing sh_0 rfl rfl (Nat.le_of_ble_eq_true rfl) dL_startSwing_7 ([⟨0, 12, 15, 13⟩] : List ExceptionTableEntry) ⟨0, 12, 19, 19⟩ [] rfl (fun y hy => by
      rcases List.mem_cons.mp hy with rfl | hy
      · exact ⟨by decide, "java/lang/IllegalStateException", gw_623, List.mem_of_getElem? (i := 0) rfl⟩
      · cases hy) (by decide) (by decide) gw_702 (List.mem_of_getElem? (i := 1) rfl) (a1 := 1) (b1 := 6) (a2 := 0) (b2 := 0) hct rfl rfl ?_
  refine Jq_astore (i := 5) (by decide) dL_startSwing_19 ?_
  refine J_iconst (v := 2) (by decide) dL_startSwing_21 ?_
  exact J_fini (ty := .int) rfl rfl dL_startSwing_22 ⟨rfl, rfl⟩
theorem w_stopSwing {G : Gx} {mm mm1 : Nat → Nat → Int32} {lm : Nat → Int64} {x1 : Int32} {v : Int32} (hct : Ct G M_X9_stopSwing [.ref 0, .int x1] (SH, mm, lm) false (.inl (some (.int v))) (SH, mm1, lm) false 1 6) :
    Ct G M_L_stopSwing [.ref 0, .int x1, .ref 85] (SH, mm, lm) false (.inl (some (.int 0))) (SH, mm1, vp_updL lm 0 v.toInt64) false 1 6 := by
  refine ct_of_JH (by decide +kernel) rfl (Nat.le_of_ble_eq_true rfl) ?_
  refine J_aload_n rfl (i := 2) rfl dL_stopSwing_0 ?_
  refine J_iconst (v := 0) (by decide) dL_stopSwing_1 ?_
  refine J_aload_n rfl (i := 0) rfl dL_stopSwing_2 ?_
  refine J_iload_n rfl (i := 1) rfl dL_stopSwing_3 ?_
  refine J_callV (as := [.int x1]) (k := 0) (st := [.int 0, .ref 85]) cal_X9_stopSwing cai_X9_stopSwing gw_1081 ⟨by decide, by decide⟩ cnt_X9_stopSwing sh_0 rfl rfl (Nat.le_of_ble_eq_true rfl) dL_stopSwing_4 (a1 := 1) (b1 := 6) (a2 := 0) (b2 := 0) rfl rfl hct ?_
  refine J_i2l dL_stopSwing_7 ?_
  refine J_last sh_85 sh_out (by unfold vp_in; decide) dL_stopSwing_8 ?_
  refine J_goto (tgt := 18) dL_stopSwing_9 (by decide) ?_
  refine J_iconst (v := 0) (by decide) dL_stopSwing_18 ?_
  exact J_fini (ty := .int) rfl rfl dL_stopSwing_19 ⟨rfl, rfl⟩
theorem w1_stopSwing {G : Gx} {mm mm1 : Nat → Nat → Int32} {lm : Nat → Int64} {x1 : Int32} (hct : Ct G M_X9_stopSwing [.ref 0, .int x1] (SH, mm, lm) false (.inr "java/lang/IllegalStateException") (SH, mm1, lm) false 1 6) :
    Ct G M_L_stopSwing [.ref 0, .int x1, .ref 85] (SH, mm, lm) false (.inl (some (.int 1))) (SH, mm1, lm) false 1 6 := by
  refine ct_of_JH (by decide +kernel) rfl (Nat.le_of_ble_eq_true rfl) ?_
  refine J_aload_n rfl (i := 2) rfl dL_stopSwing_0 ?_
  refine J_iconst (v := 0) (by decide) dL_stopSwing_1 ?_
  refine J_aload_n rfl (i := 0) rfl dL_stopSwing_2 ?_
  refine J_iload_n rfl (i := 1) rfl dL_stopSwing_3 ?_
  refine J_callVc (as := [.int x1]) (k := 0) (st := [.int 0, .ref 85]) cal_X9_stopSwing cai_X9_stopSwing gw_1081 ⟨by decide, by decide⟩ cnt_X9_stopSwing sh_0 rfl rfl (Nat.le_of_ble_eq_true rfl) dL_stopSwing_4 ([] : List ExceptionTableEntry) ⟨0, 9, 12, 13⟩ [⟨0, 9, 15, 19⟩] rfl (fun y hy => by cases hy) (by decide) (by decide) gw_623 (List.mem_of_getElem? (i := 0) rfl) (a1 := 1) (b1 := 6) (a2 := 0) (b2 := 0) hct rfl rfl ?_
  refine Jq_astore_n rfl (i := 3) (by decide) dL_stopSwing_12 ?_
  refine J_iconst (v := 1) (by decide) dL_stopSwing_13 ?_
  exact J_fini (ty := .int) rfl rfl dL_stopSwing_14 ⟨rfl, rfl⟩
theorem w2_stopSwing {G : Gx} {mm mm1 : Nat → Nat → Int32} {lm : Nat → Int64} {x1 : Int32} (hct : Ct G M_X9_stopSwing [.ref 0, .int x1] (SH, mm, lm) false (.inr "java/lang/IllegalArgumentException") (SH, mm1, lm) false 1 6) :
    Ct G M_L_stopSwing [.ref 0, .int x1, .ref 85] (SH, mm, lm) false (.inl (some (.int 2))) (SH, mm1, lm) false 1 6 := by
  refine ct_of_JH (by decide +kernel) rfl (Nat.le_of_ble_eq_true rfl) ?_
  refine J_aload_n rfl (i := 2) rfl dL_stopSwing_0 ?_
  refine J_iconst (v := 0) (by decide) dL_stopSwing_1 ?_
  refine J_aload_n rfl (i := 0) rfl dL_stopSwing_2 ?_
  refine J_iload_n rfl (i := 1) rfl dL_stopSwing_3 ?_
  refine J_callVc (as := [.int x1]) (k := 0) (st := [.int 0, .ref 85]) cal_X9_stopSwing cai_X9_stopSwing gw_1081 ⟨by decide, by decide⟩ cnt_X9_stopSwing sh_0 rfl rfl (Nat.le_of_ble_eq_true rfl) dL_stopSwing_4 ([⟨0, 9, 12, 13⟩] : List ExceptionTableEntry) ⟨0, 9, 15, 19⟩ [] rfl (fun y hy => by
      rcases List.mem_cons.mp hy with rfl | hy
      · exact ⟨by decide, "java/lang/IllegalStateException", gw_623, List.mem_of_getElem? (i := 0) rfl⟩
      · cases hy) (by decide) (by decide) gw_702 (List.mem_of_getElem? (i := 1) rfl) (a1 := 1) (b1 := 6) (a2 := 0) (b2 := 0) hct rfl rfl ?_
  refine Jq_astore_n rfl (i := 3) (by decide) dL_stopSwing_15 ?_
  refine J_iconst (v := 2) (by decide) dL_stopSwing_16 ?_
  exact J_fini (ty := .int) rfl rfl dL_stopSwing_17 ⟨rfl, rfl⟩
theorem w_offset {G : Gx} {mm mm1 : Nat → Nat → Int32} {lm : Nat → Int64} {x1 : Int32} {x2 : Int32} {v : Int32} (hct : Ct G M_X9_offset [.ref 0, .int x1, .int x2] (SH, mm, lm) false (.inl (some (.int v))) (SH, mm1, lm) false 1 6) :
    Ct G M_L_offset [.ref 0, .int x1, .int x2, .ref 85] (SH, mm, lm) false (.inl (some (.int 0))) (SH, mm1, vp_updL lm 0 v.toInt64) false 1 6 := by
  refine ct_of_JH (by decide +kernel) rfl (Nat.le_of_ble_eq_true rfl) ?_
  refine J_aload_n rfl (i := 3) rfl dL_offset_0 ?_
  refine J_iconst (v := 0) (by decide) dL_offset_1 ?_
  refine J_aload_n rfl (i := 0) rfl dL_offset_2 ?_
  refine J_iload_n rfl (i := 1) rfl dL_offset_3 ?_
  refine J_iload_n rfl (i := 2) rfl dL_offset_4 ?_
  refine J_callV (as := [.int x1, .int x2]) (k := 0) (st := [.int 0, .ref 85]) cal_X9_offset cai_X9_offset gw_1089 ⟨by decide, by decide⟩ cnt_X9_offset sh_0 rfl rfl (Nat.le_of_ble_eq_true rfl) dL_offset_5 (a1 := 1) (b1 := 6) (a2 := 0) (b2 := 0) rfl rfl hct ?_
  refine J_i2l dL_offset_8 ?_
  refine J_last sh_85 sh_out (by unfold vp_in; decide) dL_offset_9 ?_
  refine J_goto (tgt := 25) dL_offset_10 (by decide) ?_
  refine J_iconst (v := 0) (by decide) dL_offset_25 ?_
  exact J_fini (ty := .int) rfl rfl dL_offset_26 ⟨rfl, rfl⟩
theorem w1_offset {G : Gx} {mm mm1 : Nat → Nat → Int32} {lm : Nat → Int64} {x1 : Int32} {x2 : Int32} (hct : Ct G M_X9_offset [.ref 0, .int x1, .int x2] (SH, mm, lm) false (.inr "java/lang/IllegalStateException") (SH, mm1, lm) false 1 6) :
    Ct G M_L_offset [.ref 0, .int x1, .int x2, .ref 85] (SH, mm, lm) false (.inl (some (.int 1))) (SH, mm1, lm) false 1 6 := by
  refine ct_of_JH (by decide +kernel) rfl (Nat.le_of_ble_eq_true rfl) ?_
  refine J_aload_n rfl (i := 3) rfl dL_offset_0 ?_
  refine J_iconst (v := 0) (by decide) dL_offset_1 ?_
  refine J_aload_n rfl (i := 0) rfl dL_offset_2 ?_
  refine J_iload_n rfl (i := 1) rfl dL_offset_3 ?_
  refine J_iload_n rfl (i := 2) rfl dL_offset_4 ?_
  refine J_callVc (as := [.int x1, .int x2]) (k := 0) (st := [.int 0, .ref 85]) cal_X9_offset cai_X9_offset gw_1089 ⟨by decide, by decide⟩ cnt_X9_offset sh_0 rfl rfl (Nat.le_of_ble_eq_true rfl) dL_offset_5 ([] : List ExceptionTableEntry) ⟨0, 10, 13, 13⟩ [⟨0, 10, 17, 19⟩, ⟨0, 10, 21, 38⟩] rfl (fun y hy => by cases hy) (by decide) (by decide) gw_623 (List.mem_of_getElem? (i := 0) rfl) (a1 := 1) (b1 := 6) (a2 := 0) (b2 := 0) hct rfl rfl ?_
  refine Jq_astore (i := 4) (by decide) dL_offset_13 ?_
  refine J_iconst (v := 1) (by decide) dL_offset_15 ?_
  exact J_fini (ty := .int) rfl rfl dL_offset_16 ⟨rfl, rfl⟩
theorem w2_offset {G : Gx} {mm mm1 : Nat → Nat → Int32} {lm : Nat → Int64} {x1 : Int32} {x2 : Int32} (hct : Ct G M_X9_offset [.ref 0, .int x1, .int x2] (SH, mm, lm) false (.inr "java/lang/IllegalArgumentException") (SH, mm1, lm) false 1 6) :
    Ct G M_L_offset [.ref 0, .int x1, .int x2, .ref 85] (SH, mm, lm) false (.inl (some (.int 2))) (SH, mm1, lm) false 1 6 := by
  refine ct_of_JH (by decide +kernel) rfl (Nat.le_of_ble_eq_true rfl) ?_
  refine J_aload_n rfl (i := 3) rfl dL_offset_0 ?_
  refine J_iconst (v := 0) (by decide) dL_offset_1 ?_
  refine J_aload_n rfl (i := 0) rfl dL_offset_2 ?_
  refine J_iload_n rfl (i := 1) rfl dL_offset_3 ?_
  refine J_iload_n rfl (i := 2) rfl dL_offset_4 ?_
  refine J_callVc (as := [.int x1, .int x2]) (k := 0) (st := [.int 0, .ref 85]) cal_X9_offset cai_X9_offset gw_1089 ⟨by decide, by decide⟩ cnt_X9_offset sh_0 rfl rfl (Nat.le_of_ble_eq_true rfl) dL_offset_5 ([⟨0, 10, 13, 13⟩] : List ExceptionTableEntry) ⟨0, 10, 17, 19⟩ [⟨0, 10, 21, 38⟩] rfl (fun y hy => by
      rcases List.mem_cons.mp hy with rfl | hy
      · exact ⟨by decide, "java/lang/IllegalStateException", gw_623, List.mem_of_getElem? (i := 0) rfl⟩
      · cases hy) (by decide) (by decide) gw_702 (List.mem_of_getElem? (i := 1) rfl) (a1 := 1) (b1 := 6) (a2 := 0) (b2 := 0) hct rfl rfl ?_
  refine Jq_astore (i := 4) (by decide) dL_offset_17 ?_
  refine J_iconst (v := 2) (by decide) dL_offset_19 ?_
  exact J_fini (ty := .int) rfl rfl dL_offset_20 ⟨rfl, rfl⟩
theorem w3_offset {G : Gx} {mm mm1 : Nat → Nat → Int32} {lm : Nat → Int64} {x1 : Int32} {x2 : Int32} (hct : Ct G M_X9_offset [.ref 0, .int x1, .int x2] (SH, mm, lm) false (.inr "java/util/NoSuchElementException") (SH, mm1, lm) false 1 6) :
    Ct G M_L_offset [.ref 0, .int x1, .int x2, .ref 85] (SH, mm, lm) false (.inl (some (.int 3))) (SH, mm1, lm) false 1 6 := by
  refine ct_of_JH (by decide +kernel) rfl (Nat.le_of_ble_eq_true rfl) ?_
  refine J_aload_n rfl (i := 3) rfl dL_offset_0 ?_
  refine J_iconst (v := 0) (by decide) dL_offset_1 ?_
  refine J_aload_n rfl (i := 0) rfl dL_offset_2 ?_
  refine J_iload_n rfl (i := 1) rfl dL_offset_3 ?_
  refine J_iload_n rfl (i := 2) rfl dL_offset_4 ?_
  refine J_callVc (as := [.int x1, .int x2]) (k := 0) (st := [.int 0, .ref 85]) cal_X9_offset cai_X9_offset gw_1089 ⟨by decide, by decide⟩ cnt_X9_offset sh_0 rfl rfl (Nat.le_of_ble_eq_true rfl) dL_offset_5 ([⟨0, 10, 13, 13⟩, ⟨0, 10, 17, 19⟩] : List ExceptionTableEntry) ⟨0, 10, 21, 38⟩ [] rfl (fun y hy => by
      rcases List.mem_cons.mp hy with rfl | hy
      · exact ⟨by decide, "java/lang/IllegalStateException", gw_623, List.mem_of_getElem? (i := 1) rfl⟩
      · rcases List.mem_cons.mp hy with rfl | hy
        · exact ⟨by decide, "java/lang/IllegalArgumentException", gw_702, List.mem_of_getElem? (i := 2) rfl⟩
        · cases hy) (by decide) (by decide) gw_819 (List.mem_of_getElem? (i := 2) rfl) (a1 := 1) (b1 := 6) (a2 := 0) (b2 := 0) hct rfl rfl ?_
  refine Jq_astore (i := 4) (by decide) dL_offset_21 ?_
  refine J_iconst (v := 3) (by decide) dL_offset_23 ?_
  exact J_fini (ty := .int) rfl rfl dL_offset_24 ⟨rfl, rfl⟩
theorem w_gap {G : Gx} {mm mm1 : Nat → Nat → Int32} {lm : Nat → Int64} {x1 : Int32} {x2 : Int32} {x3 : Int32} {v : Int32} (hct : Ct G M_X9_gap [.ref 0, .int x1, .int x2, .int x3] (SH, mm, lm) false (.inl (some (.int v))) (SH, mm1, lm) false 1 6) :
    Ct G M_L_gap [.ref 0, .int x1, .int x2, .int x3, .ref 85] (SH, mm, lm) false (.inl (some (.int 0))) (SH, mm1, vp_updL lm 0 v.toInt64) false 1 6 := by
  refine ct_of_JH (by decide +kernel) rfl (Nat.le_of_ble_eq_true rfl) ?_
  refine J_aload (i := 4) rfl dL_gap_0 ?_
  refine J_iconst (v := 0) (by decide) dL_gap_2 ?_
  refine J_aload_n rfl (i := 0) rfl dL_gap_3 ?_
  refine J_iload_n rfl (i := 1) rfl dL_gap_4 ?_
  refine J_iload_n rfl (i := 2) rfl dL_gap_5 ?_
  refine J_iload_n rfl (i := 3) rfl dL_gap_6 ?_
  refine J_callV (as := [.int x1, .int x2, .int x3]) (k := 0) (st := [.int 0, .ref 85]) cal_X9_gap cai_X9_gap gw_1103 ⟨by decide, by decide⟩ cnt_X9_gap sh_0 rfl rfl (Nat.le_of_ble_eq_true rfl) dL_gap_7 (a1 := 1) (b1 := 6) (a2 := 0) (b2 := 0) rfl rfl hct ?_
  refine J_i2l dL_gap_10 ?_
  refine J_last sh_85 sh_out (by unfold vp_in; decide) dL_gap_11 ?_
  refine J_goto (tgt := 27) dL_gap_12 (by decide) ?_
  refine J_iconst (v := 0) (by decide) dL_gap_27 ?_
  exact J_fini (ty := .int) rfl rfl dL_gap_28 ⟨rfl, rfl⟩
theorem w1_gap {G : Gx} {mm mm1 : Nat → Nat → Int32} {lm : Nat → Int64} {x1 : Int32} {x2 : Int32} {x3 : Int32} (hct : Ct G M_X9_gap [.ref 0, .int x1, .int x2, .int x3] (SH, mm, lm) false (.inr "java/lang/IllegalStateException") (SH, mm1, lm) false 1 6) :
    Ct G M_L_gap [.ref 0, .int x1, .int x2, .int x3, .ref 85] (SH, mm, lm) false (.inl (some (.int 1))) (SH, mm1, lm) false 1 6 := by
  refine ct_of_JH (by decide +kernel) rfl (Nat.le_of_ble_eq_true rfl) ?_
  refine J_aload (i := 4) rfl dL_gap_0 ?_
  refine J_iconst (v := 0) (by decide) dL_gap_2 ?_
  refine J_aload_n rfl (i := 0) rfl dL_gap_3 ?_
  refine J_iload_n rfl (i := 1) rfl dL_gap_4 ?_
  refine J_iload_n rfl (i := 2) rfl dL_gap_5 ?_
  refine J_iload_n rfl (i := 3) rfl dL_gap_6 ?_
  refine J_callVc (as := [.int x1, .int x2, .int x3]) (k := 0) (st := [.int 0, .ref 85]) cal_X9_gap cai_X9_gap gw_1103 ⟨by decide, by decide⟩ cnt_X9_gap sh_0 rfl rfl (Nat.le_of_ble_eq_true rfl) dL_gap_7 ([] : List ExceptionTableEntry) ⟨0, 12, 15, 13⟩ [⟨0, 12, 19, 19⟩, ⟨0, 12, 23, 38⟩] rfl (fun y hy => by cases hy) (by decide) (by decide) gw_623 (List.mem_of_getElem? (i := 0) rfl) (a1 := 1) (b1 := 6) (a2 := 0) (b2 := 0) hct rfl rfl ?_
  refine Jq_astore (i := 5) (by decide) dL_gap_15 ?_
  refine J_iconst (v := 1) (by decide) dL_gap_17 ?_
  exact J_fini (ty := .int) rfl rfl dL_gap_18 ⟨rfl, rfl⟩
theorem w2_gap {G : Gx} {mm mm1 : Nat → Nat → Int32} {lm : Nat → Int64} {x1 : Int32} {x2 : Int32} {x3 : Int32} (hct : Ct G M_X9_gap [.ref 0, .int x1, .int x2, .int x3] (SH, mm, lm) false (.inr "java/lang/IllegalArgumentException") (SH, mm1, lm) false 1 6) :
    Ct G M_L_gap [.ref 0, .int x1, .int x2, .int x3, .ref 85] (SH, mm, lm) false (.inl (some (.int 2))) (SH, mm1, lm) false 1 6 := by
  refine ct_of_JH (by decide +kernel) rfl (Nat.le_of_ble_eq_true rfl) ?_
  refine J_aload (i := 4) rfl dL_gap_0 ?_
  refine J_iconst (v := 0) (by decide) dL_gap_2 ?_
  refine J_aload_n rfl (i := 0) rfl dL_gap_3 ?_
  refine J_iload_n rfl (i := 1) rfl dL_gap_4 ?_
  refine J_iload_n rfl (i := 2) rfl dL_gap_5 ?_
  refine J_iload_n rfl (i := 3) rfl dL_gap_6 ?_
  refine J_callVc (as := [.int x1, .int x2, .int x3]) (k := 0) (st := [.int 0, .ref 85]) cal_X9_gap cai_X9_gap gw_1103 ⟨by decide, by decide⟩ cnt_X9_gap sh_0 rfl rfl (Nat.le_of_ble_eq_true rfl) dL_gap_7 ([⟨0, 12, 15, 13⟩] : List ExceptionTableEntry) ⟨0, 12, 19, 19⟩ [⟨0, 12, 23, 38⟩] rfl (fun y hy => by
      rcases List.mem_cons.mp hy with rfl | hy
      · exact ⟨by decide, "java/lang/IllegalStateException", gw_623, List.mem_of_getElem? (i := 0) rfl⟩
      · cases hy) (by decide) (by decide) gw_702 (List.mem_of_getElem? (i := 1) rfl) (a1 := 1) (b1 := 6) (a2 := 0) (b2 := 0) hct rfl rfl ?_
  refine Jq_astore (i := 5) (by decide) dL_gap_19 ?_
  refine J_iconst (v := 2) (by decide) dL_gap_21 ?_
  exact J_fini (ty := .int) rfl rfl dL_gap_22 ⟨rfl, rfl⟩
theorem w3_gap {G : Gx} {mm mm1 : Nat → Nat → Int32} {lm : Nat → Int64} {x1 : Int32} {x2 : Int32} {x3 : Int32} (hct : Ct G M_X9_gap [.ref 0, .int x1, .int x2, .int x3] (SH, mm, lm) false (.inr "java/util/NoSuchElementException") (SH, mm1, lm) false 1 6) :
    Ct G M_L_gap [.ref 0, .int x1, .int x2, .int x3, .ref 85] (SH, mm, lm) false (.inl (some (.int 3))) (SH, mm1, lm) false 1 6 := by
  refine ct_of_JH (by decide +kernel) rfl (Nat.le_of_ble_eq_true rfl) ?_
  refine J_aload (i := 4) rfl dL_gap_0 ?_
  refine J_iconst (v := 0) (by decide) dL_gap_2 ?_
  refine J_aload_n rfl (i := 0) rfl dL_gap_3 ?_
  refine J_iload_n rfl (i := 1) rfl dL_gap_4 ?_
  refine J_iload_n rfl (i := 2) rfl dL_gap_5 ?_
  refine J_iload_n rfl (i := 3) rfl dL_gap_6 ?_
  refine J_callVc (as := [.int x1, .int x2, .int x3]) (k := 0) (st := [.int 0, .ref 85]) cal_X9_gap cai_X9_gap gw_1103 ⟨by decide, by decide⟩ cnt_X9_gap sh_0 rfl rfl (Nat.le_of_ble_eq_true rfl) dL_gap_7 ([⟨0, 12, 15, 13⟩, ⟨0, 12, 19, 19⟩] : List ExceptionTableEntry) ⟨0, 12, 23, 38⟩ [] rfl (fun y hy => by
      rcases List.mem_cons.mp hy with rfl | hy
      · exact ⟨by decide, "java/lang/IllegalStateException", gw_623, List.mem_of_getElem? (i := 1) rfl⟩
      · rcases List.mem_cons.mp hy with rfl | hy
        · exact ⟨by decide, "java/lang/IllegalArgumentException", gw_702, List.mem_of_getElem? (i := 2) rfl⟩
        · cases hy) (by decide) (by decide) gw_819 (List.mem_of_getElem? (i := 2) rfl) (a1 := 1) (b1 := 6) (a2 := 0) (b2 := 0) hct rfl rfl ?_
  refine Jq_astore (i := 5) (by decide) dL_gap_23 ?_
  refine J_iconst (v := 3) (by decide) dL_gap_25 ?_
  exact J_fini (ty := .int) rfl rfl dL_gap_26 ⟨rfl, rfl⟩
theorem w_firstCollision {G : Gx} {mm mm1 : Nat → Nat → Int32} {lm : Nat → Int64}  {v : Int32} (hct : Ct G M_X9_firstCollision [.ref 0] (SH, mm, lm) false (.inl (some (.int v))) (SH, mm1, lm) false 1 6) :
    Ct G M_L_firstCollision [.ref 0, .ref 85] (SH, mm, lm) false (.inl (some (.int 0))) (SH, mm1, vp_updL lm 0 v.toInt64) false 1 6 := by
  refine ct_of_JH (by decide +kernel) rfl (Nat.le_of_ble_eq_true rfl) ?_
  refine J_aload_n rfl (i := 1) rfl dL_firstCollision_0 ?_
  refine J_iconst (v := 0) (by decide) dL_firstCollision_1 ?_
  refine J_aload_n rfl (i := 0) rfl dL_firstCollision_2 ?_
  refine J_callV (as := []) (k := 0) (st := [.int 0, .ref 85]) cal_X9_firstCollision cai_X9_firstCollision gw_1126 ⟨by decide, by decide⟩ cnt_X9_firstCollision sh_0 rfl rfl (Nat.le_of_ble_eq_true rfl) dL_firstCollision_3 (a1 := 1) (b1 := 6) (a2 := 0) (b2 := 0) rfl rfl hct ?_
  refine J_i2l dL_firstCollision_6 ?_
  refine J_last sh_85 sh_out (by unfold vp_in; decide) dL_firstCollision_7 ?_
  refine J_goto (tgt := 14) dL_firstCollision_8 (by decide) ?_
  refine J_iconst (v := 0) (by decide) dL_firstCollision_14 ?_
  exact J_fini (ty := .int) rfl rfl dL_firstCollision_15 ⟨rfl, rfl⟩
theorem w1_firstCollision {G : Gx} {mm mm1 : Nat → Nat → Int32} {lm : Nat → Int64}  (hct : Ct G M_X9_firstCollision [.ref 0] (SH, mm, lm) false (.inr "java/lang/IllegalStateException") (SH, mm1, lm) false 1 6) :
    Ct G M_L_firstCollision [.ref 0, .ref 85] (SH, mm, lm) false (.inl (some (.int 1))) (SH, mm1, lm) false 1 6 := by
  refine ct_of_JH (by decide +kernel) rfl (Nat.le_of_ble_eq_true rfl) ?_
  refine J_aload_n rfl (i := 1) rfl dL_firstCollision_0 ?_
  refine J_iconst (v := 0) (by decide) dL_firstCollision_1 ?_
  refine J_aload_n rfl (i := 0) rfl dL_firstCollision_2 ?_
  refine J_callVc (as := []) (k := 0) (st := [.int 0, .ref 85]) cal_X9_firstCollision cai_X9_firstCollision gw_1126 ⟨by decide, by decide⟩ cnt_X9_firstCollision sh_0 rfl rfl (Nat.le_of_ble_eq_true rfl) dL_firstCollision_3 ([] : List ExceptionTableEntry) ⟨0, 8, 11, 13⟩ [] rfl (fun y hy => by cases hy) (by decide) (by decide) gw_623 (List.mem_of_getElem? (i := 0) rfl) (a1 := 1) (b1 := 6) (a2 := 0) (b2 := 0) hct rfl rfl ?_
  refine Jq_astore_n rfl (i := 2) (by decide) dL_firstCollision_11 ?_
  refine J_iconst (v := 1) (by decide) dL_firstCollision_12 ?_
  exact J_fini (ty := .int) rfl rfl dL_firstCollision_13 ⟨rfl, rfl⟩
theorem w_collidingBells {G : Gx} {mm mm1 : Nat → Nat → Int32} {lm : Nat → Int64}  {v : Int32} (hct : Ct G M_X9_collidingBells [.ref 0] (SH, mm, lm) false (.inl (some (.int v))) (SH, mm1, lm) false 1 6) :
    Ct G M_L_collidingBells [.ref 0, .ref 85] (SH, mm, lm) false (.inl (some (.int 0))) (SH, mm1, vp_updL lm 0 v.toInt64) false 1 6 := by
  refine ct_of_JH (by decide +kernel) rfl (Nat.le_of_ble_eq_true rfl) ?_
  refine J_aload_n rfl (i := 1) rfl dL_collidingBells_0 ?_
  refine J_iconst (v := 0) (by decide) dL_collidingBells_1 ?_
  refine J_aload_n rfl (i := 0) rfl dL_collidingBells_2 ?_
  refine J_callV (as := []) (k := 0) (st := [.int 0, .ref 85]) cal_X9_collidingBells cai_X9_collidingBells gw_1142 ⟨by decide, by decide⟩ cnt_X9_collidingBells sh_0 rfl rfl (Nat.le_of_ble_eq_true rfl) dL_collidingBells_3 (a1 := 1) (b1 := 6) (a2 := 0) (b2 := 0) rfl rfl hct ?_
  refine J_i2l dL_collidingBells_6 ?_
  refine J_last sh_85 sh_out (by unfold vp_in; decide) dL_collidingBells_7 ?_
  refine J_goto (tgt := 14) dL_collidingBells_8 (by decide) ?_
  refine J_iconst (v := 0) (by decide) dL_collidingBells_14 ?_
  exact J_fini (ty := .int) rfl rfl dL_collidingBells_15 ⟨rfl, rfl⟩
theorem w1_collidingBells {G : Gx} {mm mm1 : Nat → Nat → Int32} {lm : Nat → Int64}  (hct : Ct G M_X9_collidingBells [.ref 0] (SH, mm, lm) false (.inr "java/lang/IllegalStateException") (SH, mm1, lm) false 1 6) :
    Ct G M_L_collidingBells [.ref 0, .ref 85] (SH, mm, lm) false (.inl (some (.int 1))) (SH, mm1, lm) false 1 6 := by
  refine ct_of_JH (by decide +kernel) rfl (Nat.le_of_ble_eq_true rfl) ?_
  refine J_aload_n rfl (i := 1) rfl dL_collidingBells_0 ?_
  refine J_iconst (v := 0) (by decide) dL_collidingBells_1 ?_
  refine J_aload_n rfl (i := 0) rfl dL_collidingBells_2 ?_
  refine J_callVc (as := []) (k := 0) (st := [.int 0, .ref 85]) cal_X9_collidingBells cai_X9_collidingBells gw_1142 ⟨by decide, by decide⟩ cnt_X9_collidingBells sh_0 rfl rfl (Nat.le_of_ble_eq_true rfl) dL_collidingBells_3 ([] : List ExceptionTableEntry) ⟨0, 8, 11, 13⟩ [] rfl (fun y hy => by cases hy) (by decide) (by decide) gw_623 (List.mem_of_getElem? (i := 0) rfl) (a1 := 1) (b1 := 6) (a2 := 0) (b2 := 0) hct rfl rfl ?_
  refine Jq_astore_n rfl (i := 2) (by decide) dL_collidingBells_11 ?_
  refine J_iconst (v := 1) (by decide) dL_collidingBells_12 ?_
  exact J_fini (ty := .int) rfl rfl dL_collidingBells_13 ⟨rfl, rfl⟩
theorem w_safeStart {G : Gx} {mm mm1 : Nat → Nat → Int32} {lm : Nat → Int64} {x1 : Int32} {x2 : Int32} {v : Int32} (hct : Ct G M_X9_safeStart [.ref 0, .int x1, .int x2] (SH, mm, lm) false (.inl (some (.int v))) (SH, mm1, lm) false 1 6) :
    Ct G M_L_safeStart [.ref 0, .int x1, .int x2, .ref 85] (SH, mm, lm) false (.inl (some (.int 0))) (SH, mm1, vp_updL lm 0 v.toInt64) false 1 6 := by
  refine ct_of_JH (by decide +kernel) rfl (Nat.le_of_ble_eq_true rfl) ?_
  refine J_aload_n rfl (i := 3) rfl dL_safeStart_0 ?_
  refine J_iconst (v := 0) (by decide) dL_safeStart_1 ?_
  refine J_aload_n rfl (i := 0) rfl dL_safeStart_2 ?_
  refine J_iload_n rfl (i := 1) rfl dL_safeStart_3 ?_
  refine J_iload_n rfl (i := 2) rfl dL_safeStart_4 ?_
  refine J_callV (as := [.int x1, .int x2]) (k := 0) (st := [.int 0, .ref 85]) cal_X9_safeStart cai_X9_safeStart gw_1150 ⟨by decide, by decide⟩ cnt_X9_safeStart sh_0 rfl rfl (Nat.le_of_ble_eq_true rfl) dL_safeStart_5 (a1 := 1) (b1 := 6) (a2 := 0) (b2 := 0) rfl rfl hct ?_
  refine J_i2l dL_safeStart_8 ?_
  refine J_last sh_85 sh_out (by unfold vp_in; decide) dL_safeStart_9 ?_
  refine J_goto (tgt := 21) dL_safeStart_10 (by decide) ?_
  refine J_iconst (v := 0) (by decide) dL_safeStart_21 ?_
  exact J_fini (ty := .int) rfl rfl dL_safeStart_22 ⟨rfl, rfl⟩
theorem w1_safeStart {G : Gx} {mm mm1 : Nat → Nat → Int32} {lm : Nat → Int64} {x1 : Int32} {x2 : Int32} (hct : Ct G M_X9_safeStart [.ref 0, .int x1, .int x2] (SH, mm, lm) false (.inr "java/lang/IllegalStateException") (SH, mm1, lm) false 1 6) :
    Ct G M_L_safeStart [.ref 0, .int x1, .int x2, .ref 85] (SH, mm, lm) false (.inl (some (.int 1))) (SH, mm1, lm) false 1 6 := by
  refine ct_of_JH (by decide +kernel) rfl (Nat.le_of_ble_eq_true rfl) ?_
  refine J_aload_n rfl (i := 3) rfl dL_safeStart_0 ?_
  refine J_iconst (v := 0) (by decide) dL_safeStart_1 ?_
  refine J_aload_n rfl (i := 0) rfl dL_safeStart_2 ?_
  refine J_iload_n rfl (i := 1) rfl dL_safeStart_3 ?_
  refine J_iload_n rfl (i := 2) rfl dL_safeStart_4 ?_
  refine J_callVc (as := [.int x1, .int x2]) (k := 0) (st := [.int 0, .ref 85]) cal_X9_safeStart cai_X9_safeStart gw_1150 ⟨by decide, by decide⟩ cnt_X9_safeStart sh_0 rfl rfl (Nat.le_of_ble_eq_true rfl) dL_safeStart_5 ([] : List ExceptionTableEntry) ⟨0, 10, 13, 13⟩ [⟨0, 10, 17, 19⟩] rfl (fun y hy => by cases hy) (by decide) (by decide) gw_623 (List.mem_of_getElem? (i := 0) rfl) (a1 := 1) (b1 := 6) (a2 := 0) (b2 := 0) hct rfl rfl ?_
  refine Jq_astore (i := 4) (by decide) dL_safeStart_13 ?_
  refine J_iconst (v := 1) (by decide) dL_safeStart_15 ?_
  exact J_fini (ty := .int) rfl rfl dL_safeStart_16 ⟨rfl, rfl⟩
theorem w2_safeStart {G : Gx} {mm mm1 : Nat → Nat → Int32} {lm : Nat → Int64} {x1 : Int32} {x2 : Int32} (hct : Ct G M_X9_safeStart [.ref 0, .int x1, .int x2] (SH, mm, lm) false (.inr "java/lang/IllegalArgumentException") (SH, mm1, lm) false 1 6) :
    Ct G M_L_safeStart [.ref 0, .int x1, .int x2, .ref 85] (SH, mm, lm) false (.inl (some (.int 2))) (SH, mm1, lm) false 1 6 := by
  refine ct_of_JH (by decide +kernel) rfl (Nat.le_of_ble_eq_true rfl) ?_
  refine J_aload_n rfl (i := 3) rfl dL_safeStart_0 ?_
  refine J_iconst (v := 0) (by decide) dL_safeStart_1 ?_
  refine J_aload_n rfl (i := 0) rfl dL_safeStart_2 ?_
  refine J_iload_n rfl (i := 1) rfl dL_safeStart_3 ?_
  refine J_iload_n rfl (i := 2) rfl dL_safeStart_4 ?_
  refine J_callVc (as := [.int x1, .int x2]) (k := 0) (st := [.int 0, .ref 85]) cal_X9_safeStart cai_X9_safeStart gw_1150 ⟨by decide, by decide⟩ cnt_X9_safeStart sh_0 rfl rfl (Nat.le_of_ble_eq_true rfl) dL_safeStart_5 ([⟨0, 10, 13, 13⟩] : List ExceptionTableEntry) ⟨0, 10, 17, 19⟩ [] rfl (fun y hy => by
      rcases List.mem_cons.mp hy with rfl | hy
      · exact ⟨by decide, "java/lang/IllegalStateException", gw_623, List.mem_of_getElem? (i := 0) rfl⟩
      · cases hy) (by decide) (by decide) gw_702 (List.mem_of_getElem? (i := 1) rfl) (a1 := 1) (b1 := 6) (a2 := 0) (b2 := 0) hct rfl rfl ?_
  refine Jq_astore (i := 4) (by decide) dL_safeStart_17 ?_
  refine J_iconst (v := 2) (by decide) dL_safeStart_19 ?_
  exact J_fini (ty := .int) rfl rfl dL_safeStart_20 ⟨rfl, rfl⟩
theorem w_safeAmplitude {G : Gx} {mm mm1 : Nat → Nat → Int32} {lm : Nat → Int64} {x1 : Int32} {v : Int32} (hct : Ct G M_X9_safeAmplitude [.ref 0, .int x1] (SH, mm, lm) false (.inl (some (.int v))) (SH, mm1, lm) false 1 6) :
    Ct G M_L_safeAmplitude [.ref 0, .int x1, .ref 85] (SH, mm, lm) false (.inl (some (.int 0))) (SH, mm1, vp_updL lm 0 v.toInt64) false 1 6 := by
  refine ct_of_JH (by decide +kernel) rfl (Nat.le_of_ble_eq_true rfl) ?_
  refine J_aload_n rfl (i := 2) rfl dL_safeAmplitude_0 ?_
  refine J_iconst (v := 0) (by decide) dL_safeAmplitude_1 ?_
  refine J_aload_n rfl (i := 0) rfl dL_safeAmplitude_2 ?_
  refine J_iload_n rfl (i := 1) rfl dL_safeAmplitude_3 ?_
  refine J_callV (as := [.int x1]) (k := 0) (st := [.int 0, .ref 85]) cal_X9_safeAmplitude cai_X9_safeAmplitude gw_1175 ⟨by decide, by decide⟩ cnt_X9_safeAmplitude sh_0 rfl rfl (Nat.le_of_ble_eq_true rfl) dL_safeAmplitude_4 (a1 := 1) (b1 := 6) (a2 := 0) (b2 := 0) rfl rfl hct ?_
  refine J_i2l dL_safeAmplitude_7 ?_
  refine J_last sh_85 sh_out (by unfold vp_in; decide) dL_safeAmplitude_8 ?_
  refine J_goto (tgt := 18) dL_safeAmplitude_9 (by decide) ?_
  refine J_iconst (v := 0) (by decide) dL_safeAmplitude_18 ?_
  exact J_fini (ty := .int) rfl rfl dL_safeAmplitude_19 ⟨rfl, rfl⟩
theorem w1_safeAmplitude {G : Gx} {mm mm1 : Nat → Nat → Int32} {lm : Nat → Int64} {x1 : Int32} (hct : Ct G M_X9_safeAmplitude [.ref 0, .int x1] (SH, mm, lm) false (.inr "java/lang/IllegalStateException") (SH, mm1, lm) false 1 6) :
    Ct G M_L_safeAmplitude [.ref 0, .int x1, .ref 85] (SH, mm, lm) false (.inl (some (.int 1))) (SH, mm1, lm) false 1 6 := by
  refine ct_of_JH (by decide +kernel) rfl (Nat.le_of_ble_eq_true rfl) ?_
  refine J_aload_n rfl (i := 2) rfl dL_safeAmplitude_0 ?_
  refine J_iconst (v := 0) (by decide) dL_safeAmplitude_1 ?_
  refine J_aload_n rfl (i := 0) rfl dL_safeAmplitude_2 ?_
  refine J_iload_n rfl (i := 1) rfl dL_safeAmplitude_3 ?_
  refine J_callVc (as := [.int x1]) (k := 0) (st := [.int 0, .ref 85]) cal_X9_safeAmplitude cai_X9_safeAmplitude gw_1175 ⟨by decide, by decide⟩ cnt_X9_safeAmplitude sh_0 rfl rfl (Nat.le_of_ble_eq_true rfl) dL_safeAmplitude_4 ([] : List ExceptionTableEntry) ⟨0, 9, 12, 13⟩ [⟨0, 9, 15, 19⟩] rfl (fun y hy => by cases hy) (by decide) (by decide) gw_623 (List.mem_of_getElem? (i := 0) rfl) (a1 := 1) (b1 := 6) (a2 := 0) (b2 := 0) hct rfl rfl ?_
  refine Jq_astore_n rfl (i := 3) (by decide) dL_safeAmplitude_12 ?_
  refine J_iconst (v := 1) (by decide) dL_safeAmplitude_13 ?_
  exact J_fini (ty := .int) rfl rfl dL_safeAmplitude_14 ⟨rfl, rfl⟩
theorem w2_safeAmplitude {G : Gx} {mm mm1 : Nat → Nat → Int32} {lm : Nat → Int64} {x1 : Int32} (hct : Ct G M_X9_safeAmplitude [.ref 0, .int x1] (SH, mm, lm) false (.inr "java/lang/IllegalArgumentException") (SH, mm1, lm) false 1 6) :
    Ct G M_L_safeAmplitude [.ref 0, .int x1, .ref 85] (SH, mm, lm) false (.inl (some (.int 2))) (SH, mm1, lm) false 1 6 := by
  refine ct_of_JH (by decide +kernel) rfl (Nat.le_of_ble_eq_true rfl) ?_
  refine J_aload_n rfl (i := 2) rfl dL_safeAmplitude_0 ?_
  refine J_iconst (v := 0) (by decide) dL_safeAmplitude_1 ?_
  refine J_aload_n rfl (i := 0) rfl dL_safeAmplitude_2 ?_
  refine J_iload_n rfl (i := 1) rfl dL_safeAmplitude_3 ?_
  refine J_callVc (as := [.int x1]) (k := 0) (st := [.int 0, .ref 85]) cal_X9_safeAmplitude cai_X9_safeAmplitude gw_1175 ⟨by decide, by decide⟩ cnt_X9_safeAmplitude sh_0 rfl rfl (Nat.le_of_ble_eq_true rfl) dL_safeAmplitude_4 ([⟨0, 9, 12, 13⟩] : List ExceptionTableEntry) ⟨0, 9, 15, 19⟩ [] rfl (fun y hy => by
      rcases List.mem_cons.mp hy with rfl | hy
      · exact ⟨by decide, "java/lang/IllegalStateException", gw_623, List.mem_of_getElem? (i := 0) rfl⟩
      · cases hy) (by decide) (by decide) gw_702 (List.mem_of_getElem? (i := 1) rfl) (a1 := 1) (b1 := 6) (a2 := 0) (b2 := 0) hct rfl rfl ?_
  refine Jq_astore_n rfl (i := 3) (by decide) dL_safeAmplitude_15 ?_
  refine J_iconst (v := 2) (by decide) dL_safeAmplitude_16 ?_
  exact J_fini (ty := .int) rfl rfl dL_safeAmplitude_17 ⟨rfl, rfl⟩
theorem w_strikes {G : Gx} {mm mm1 : Nat → Nat → Int32} {lm : Nat → Int64} {x1 : Int32} {x2 : Int32} {x3 : Int32} {v : Int32} (hct : Ct G M_X9_strikes [.ref 0, .int x1, .int x2, .int x3] (SH, mm, lm) false (.inl (some (.int v))) (SH, mm1, lm) false 1 6) :
    Ct G M_L_strikes [.ref 0, .int x1, .int x2, .int x3, .ref 85] (SH, mm, lm) false (.inl (some (.int 0))) (SH, mm1, vp_updL lm 0 v.toInt64) false 1 6 := by
  refine ct_of_JH (by decide +kernel) rfl (Nat.le_of_ble_eq_true rfl) ?_
  refine J_aload (i := 4) rfl dL_strikes_0 ?_
  refine J_iconst (v := 0) (by decide) dL_strikes_2 ?_
  refine J_aload_n rfl (i := 0) rfl dL_strikes_3 ?_
  refine J_iload_n rfl (i := 1) rfl dL_strikes_4 ?_
  refine J_iload_n rfl (i := 2) rfl dL_strikes_5 ?_
  refine J_iload_n rfl (i := 3) rfl dL_strikes_6 ?_
  refine J_callV (as := [.int x1, .int x2, .int x3]) (k := 0) (st := [.int 0, .ref 85]) cal_X9_strikes cai_X9_strikes gw_1186 ⟨by decide, by decide⟩ cnt_X9_strikes sh_0 rfl rfl (Nat.le_of_ble_eq_true rfl) dL_strikes_7 (a1 := 1) (b1 := 6) (a2 := 0) (b2 := 0) rfl rfl hct ?_
  refine J_i2l dL_strikes_10 ?_
  refine J_last sh_85 sh_out (by unfold vp_in; decide) dL_strikes_11 ?_
  refine J_goto (tgt := 23) dL_strikes_12 (by decide) ?_
  refine J_iconst (v := 0) (by decide) dL_strikes_23 ?_
  exact J_fini (ty := .int) rfl rfl dL_strikes_24 ⟨rfl, rfl⟩
theorem w1_strikes {G : Gx} {mm mm1 : Nat → Nat → Int32} {lm : Nat → Int64} {x1 : Int32} {x2 : Int32} {x3 : Int32} (hct : Ct G M_X9_strikes [.ref 0, .int x1, .int x2, .int x3] (SH, mm, lm) false (.inr "java/lang/IllegalStateException") (SH, mm1, lm) false 1 6) :
    Ct G M_L_strikes [.ref 0, .int x1, .int x2, .int x3, .ref 85] (SH, mm, lm) false (.inl (some (.int 1))) (SH, mm1, lm) false 1 6 := by
  refine ct_of_JH (by decide +kernel) rfl (Nat.le_of_ble_eq_true rfl) ?_
  refine J_aload (i := 4) rfl dL_strikes_0 ?_
  refine J_iconst (v := 0) (by decide) dL_strikes_2 ?_
  refine J_aload_n rfl (i := 0) rfl dL_strikes_3 ?_
  refine J_iload_n rfl (i := 1) rfl dL_strikes_4 ?_
  refine J_iload_n rfl (i := 2) rfl dL_strikes_5 ?_
  refine J_iload_n rfl (i := 3) rfl dL_strikes_6 ?_
  refine J_callVc (as := [.int x1, .int x2, .int x3]) (k := 0) (st := [.int 0, .ref 85]) cal_X9_strikes cai_X9_strikes gw_1186 ⟨by decide, by decide⟩ cnt_X9_strikes sh_0 rfl rfl (Nat.le_of_ble_eq_true rfl) dL_strikes_7 ([] : List ExceptionTableEntry) ⟨0, 12, 15, 13⟩ [⟨0, 12, 19, 19⟩] rfl (fun y hy => by cases hy) (by decide) (by decide) gw_623 (List.mem_of_getElem? (i := 0) rfl) (a1 := 1) (b1 := 6) (a2 := 0) (b2 := 0) hct rfl rfl ?_
  refine Jq_astore (i := 5) (by decide) dL_strikes_15 ?_
  refine J_iconst (v := 1) (by decide) dL_strikes_17 ?_
  exact J_fini (ty := .int) rfl rfl dL_strikes_18 ⟨rfl, rfl⟩
theorem w2_strikes {G : Gx} {mm mm1 : Nat → Nat → Int32} {lm : Nat → Int64} {x1 : Int32} {x2 : Int32} {x3 : Int32} (hct : Ct G M_X9_strikes [.ref 0, .int x1, .int x2, .int x3] (SH, mm, lm) false (.inr "java/lang/IllegalArgumentException") (SH, mm1, lm) false 1 6) :
    Ct G M_L_strikes [.ref 0, .int x1, .int x2, .int x3, .ref 85] (SH, mm, lm) false (.inl (some (.int 2))) (SH, mm1, lm) false 1 6 := by
  refine ct_of_JH (by decide +kernel) rfl (Nat.le_of_ble_eq_true rfl) ?_
  refine J_aload (i := 4) rfl dL_strikes_0 ?_
  refine J_iconst (v := 0) (by decide) dL_strikes_2 ?_
  refine J_aload_n rfl (i := 0) rfl dL_strikes_3 ?_
  refine J_iload_n rfl (i := 1) rfl dL_strikes_4 ?_
  refine J_iload_n rfl (i := 2) rfl dL_strikes_5 ?_
  refine J_iload_n rfl (i := 3) rfl dL_strikes_6 ?_
  refine J_callVc (as := [.int x1, .int x2, .int x3]) (k := 0) (st := [.int 0, .ref 85]) cal_X9_strikes cai_X9_strikes gw_1186 ⟨by decide, by decide⟩ cnt_X9_strikes sh_0 rfl rfl (Nat.le_of_ble_eq_true rfl) dL_strikes_7 ([⟨0, 12, 15, 13⟩] : List ExceptionTableEntry) ⟨0, 12, 19, 19⟩ [] rfl (fun y hy => by
      rcases List.mem_cons.mp hy with rfl | hy
      · exact ⟨by decide, "java/lang/IllegalStateException", gw_623, List.mem_of_getElem? (i := 0) rfl⟩
      · cases hy) (by decide) (by decide) gw_702 (List.mem_of_getElem? (i := 1) rfl) (a1 := 1) (b1 := 6) (a2 := 0) (b2 := 0) hct rfl rfl ?_
  refine Jq_astore (i := 5) (by decide) dL_strikes_19 ?_
  refine J_iconst (v := 2) (by decide) dL_strikes_21 ?_
  exact J_fini (ty := .int) rfl rfl dL_strikes_22 ⟨rfl, rfl⟩
theorem w_strikeTogether {G : Gx} {mm mm1 : Nat → Nat → Int32} {lm : Nat → Int64} {x1 : Int32} {x2 : Int32} {v : Int32} (hct : Ct G M_X9_strikeTogether [.ref 0, .int x1, .int x2] (SH, mm, lm) false (.inl (some (.int v))) (SH, mm1, lm) false 1 6) :
    Ct G M_L_strikeTogether [.ref 0, .int x1, .int x2, .ref 85] (SH, mm, lm) false (.inl (some (.int 0))) (SH, mm1, vp_updL lm 0 v.toInt64) false 1 6 := by
  refine ct_of_JH (by decide +kernel) rfl (Nat.le_of_ble_eq_true rfl) ?_
  refine J_aload_n rfl (i := 3) rfl dL_strikeTogether_0 ?_
  refine J_iconst (v := 0) (by decide) dL_strikeTogether_1 ?_
  refine J_aload_n rfl (i := 0) rfl dL_strikeTogether_2 ?_
  refine J_iload_n rfl (i := 1) rfl dL_strikeTogether_3 ?_
  refine J_iload_n rfl (i := 2) rfl dL_strikeTogether_4 ?_
  refine J_callV (as := [.int x1, .int x2]) (k := 0) (st := [.int 0, .ref 85]) cal_X9_strikeTogether cai_X9_strikeTogether gw_1201 ⟨by decide, by decide⟩ cnt_X9_strikeTogether sh_0 rfl rfl (Nat.le_of_ble_eq_true rfl) dL_strikeTogether_5 (a1 := 1) (b1 := 6) (a2 := 0) (b2 := 0) rfl rfl hct ?_
  refine J_i2l dL_strikeTogether_8 ?_
  refine J_last sh_85 sh_out (by unfold vp_in; decide) dL_strikeTogether_9 ?_
  refine J_goto (tgt := 21) dL_strikeTogether_10 (by decide) ?_
  refine J_iconst (v := 0) (by decide) dL_strikeTogether_21 ?_
  exact J_fini (ty := .int) rfl rfl dL_strikeTogether_22 ⟨rfl, rfl⟩
theorem w1_strikeTogether {G : Gx} {mm mm1 : Nat → Nat → Int32} {lm : Nat → Int64} {x1 : Int32} {x2 : Int32} (hct : Ct G M_X9_strikeTogether [.ref 0, .int x1, .int x2] (SH, mm, lm) false (.inr "java/lang/IllegalStateException") (SH, mm1, lm) false 1 6) :
    Ct G M_L_strikeTogether [.ref 0, .int x1, .int x2, .ref 85] (SH, mm, lm) false (.inl (some (.int 1))) (SH, mm1, lm) false 1 6 := by
  refine ct_of_JH (by decide +kernel) rfl (Nat.le_of_ble_eq_true rfl) ?_
  refine J_aload_n rfl (i := 3) rfl dL_strikeTogether_0 ?_
  refine J_iconst (v := 0) (by decide) dL_strikeTogether_1 ?_
  refine J_aload_n rfl (i := 0) rfl dL_strikeTogether_2 ?_
  refine J_iload_n rfl (i := 1) rfl dL_strikeTogether_3 ?_
  refine J_iload_n rfl (i := 2) rfl dL_strikeTogether_4 ?_
  refine J_callVc (as := [.int x1, .int x2]) (k := 0) (st := [.int 0, .ref 85]) cal_X9_strikeTogether cai_X9_strikeTogether gw_1201 ⟨by decide, by decide⟩ cnt_X9_strikeTogether sh_0 rfl rfl (Nat.le_of_ble_eq_true rfl) dL_strikeTogether_5 ([] : List ExceptionTableEntry) ⟨0, 10, 13, 13⟩ [⟨0, 10, 17, 19⟩] rfl (fun y hy => by cases hy) (by decide) (by decide) gw_623 (List.mem_of_getElem? (i := 0) rfl) (a1 := 1) (b1 := 6) (a2 := 0) (b2 := 0) hct rfl rfl ?_
  refine Jq_astore (i := 4) (by decide) dL_strikeTogether_13 ?_
  refine J_iconst (v := 1) (by decide) dL_strikeTogether_15 ?_
  exact J_fini (ty := .int) rfl rfl dL_strikeTogether_16 ⟨rfl, rfl⟩
theorem w2_strikeTogether {G : Gx} {mm mm1 : Nat → Nat → Int32} {lm : Nat → Int64} {x1 : Int32} {x2 : Int32} (hct : Ct G M_X9_strikeTogether [.ref 0, .int x1, .int x2] (SH, mm, lm) false (.inr "java/lang/IllegalArgumentException") (SH, mm1, lm) false 1 6) :
    Ct G M_L_strikeTogether [.ref 0, .int x1, .int x2, .ref 85] (SH, mm, lm) false (.inl (some (.int 2))) (SH, mm1, lm) false 1 6 := by
  refine ct_of_JH (by decide +kernel) rfl (Nat.le_of_ble_eq_true rfl) ?_
  refine J_aload_n rfl (i := 3) rfl dL_strikeTogether_0 ?_
  refine J_iconst (v := 0) (by decide) dL_strikeTogether_1 ?_
  refine J_aload_n rfl (i := 0) rfl dL_strikeTogether_2 ?_
  refine J_iload_n rfl (i := 1) rfl dL_strikeTogether_3 ?_
  refine J_iload_n rfl (i := 2) rfl dL_strikeTogether_4 ?_
  refine J_callVc (as := [.int x1, .int x2]) (k := 0) (st := [.int 0, .ref 85]) cal_X9_strikeTogether cai_X9_strikeTogether gw_1201 ⟨by decide, by decide⟩ cnt_X9_strikeTogether sh_0 rfl rfl (Nat.le_of_ble_eq_true rfl) dL_strikeTogether_5 ([⟨0, 10, 13, 13⟩] : List ExceptionTableEntry) ⟨0, 10, 17, 19⟩ [] rfl (fun y hy => by
      rcases List.mem_cons.mp hy with rfl | hy
      · exact ⟨by decide, "java/lang/IllegalStateException", gw_623, List.mem_of_getElem? (i := 0) rfl⟩
      · cases hy) (by decide) (by decide) gw_702 (List.mem_of_getElem? (i := 1) rfl) (a1 := 1) (b1 := 6) (a2 := 0) (b2 := 0) hct rfl rfl ?_
  refine Jq_astore (i := 4) (by decide) dL_strikeTogether_17 ?_
  refine J_iconst (v := 2) (by decide) dL_strikeTogether_19 ?_
  exact J_fini (ty := .int) rfl rfl dL_strikeTogether_20 ⟨rfl, rfl⟩
theorem w_setChime {G : Gx} {mm mm1 : Nat → Nat → Int32} {lm : Nat → Int64} {x1 : Int32} {x2 : Int32} {x3 : Int32} {v : Int32} (hct : Ct G M_X9_setChime [.ref 0, .int x1, .int x2, .int x3] (SH, mm, lm) false (.inl (some (.int v))) (SH, mm1, lm) false 1 6) :
    Ct G M_L_setChime [.ref 0, .int x1, .int x2, .int x3, .ref 85] (SH, mm, lm) false (.inl (some (.int 0))) (SH, mm1, vp_updL lm 0 v.toInt64) false 1 6 := by
  refine ct_of_JH (by decide +kernel) rfl (Nat.le_of_ble_eq_true rfl) ?_
  refine J_aload (i := 4) rfl dL_setChime_0 ?_
  refine J_iconst (v := 0) (by decide) dL_setChime_2 ?_
  refine J_aload_n rfl (i := 0) rfl dL_setChime_3 ?_
  refine J_iload_n rfl (i := 1) rfl dL_setChime_4 ?_
  refine J_iload_n rfl (i := 2) rfl dL_setChime_5 ?_
  refine J_iload_n rfl (i := 3) rfl dL_setChime_6 ?_
  refine J_callV (as := [.int x1, .int x2, .int x3]) (k := 0) (st := [.int 0, .ref 85]) cal_X9_setChime cai_X9_setChime gw_1212 ⟨by decide, by decide⟩ cnt_X9_setChime sh_0 rfl rfl (Nat.le_of_ble_eq_true rfl) dL_setChime_7 (a1 := 1) (b1 := 6) (a2 := 0) (b2 := 0) rfl rfl hct ?_
  refine J_i2l dL_setChime_10 ?_
  refine J_last sh_85 sh_out (by unfold vp_in; decide) dL_setChime_11 ?_
  refine J_goto (tgt := 23) dL_setChime_12 (by decide) ?_
  refine J_iconst (v := 0) (by decide) dL_setChime_23 ?_
  exact J_fini (ty := .int) rfl rfl dL_setChime_24 ⟨rfl, rfl⟩
theorem w1_setChime {G : Gx} {mm mm1 : Nat → Nat → Int32} {lm : Nat → Int64} {x1 : Int32} {x2 : Int32} {x3 : Int32} (hct : Ct G M_X9_setChime [.ref 0, .int x1, .int x2, .int x3] (SH, mm, lm) false (.inr "java/lang/IllegalStateException") (SH, mm1, lm) false 1 6) :
    Ct G M_L_setChime [.ref 0, .int x1, .int x2, .int x3, .ref 85] (SH, mm, lm) false (.inl (some (.int 1))) (SH, mm1, lm) false 1 6 := by
  refine ct_of_JH (by decide +kernel) rfl (Nat.le_of_ble_eq_true rfl) ?_
  refine J_aload (i := 4) rfl dL_setChime_0 ?_
  refine J_iconst (v := 0) (by decide) dL_setChime_2 ?_
  refine J_aload_n rfl (i := 0) rfl dL_setChime_3 ?_
  refine J_iload_n rfl (i := 1) rfl dL_setChime_4 ?_
  refine J_iload_n rfl (i := 2) rfl dL_setChime_5 ?_
  refine J_iload_n rfl (i := 3) rfl dL_setChime_6 ?_
  refine J_callVc (as := [.int x1, .int x2, .int x3]) (k := 0) (st := [.int 0, .ref 85]) cal_X9_setChime cai_X9_setChime gw_1212 ⟨by decide, by decide⟩ cnt_X9_setChime sh_0 rfl rfl (Nat.le_of_ble_eq_true rfl) dL_setChime_7 ([] : List ExceptionTableEntry) ⟨0, 12, 15, 13⟩ [⟨0, 12, 19, 19⟩] rfl (fun y hy => by cases hy) (by decide) (by decide) gw_623 (List.mem_of_getElem? (i := 0) rfl) (a1 := 1) (b1 := 6) (a2 := 0) (b2 := 0) hct rfl rfl ?_
  refine Jq_astore (i := 5) (by decide) dL_setChime_15 ?_
  refine J_iconst (v := 1) (by decide) dL_setChime_17 ?_
  exact J_fini (ty := .int) rfl rfl dL_setChime_18 ⟨rfl, rfl⟩
theorem w2_setChime {G : Gx} {mm mm1 : Nat → Nat → Int32} {lm : Nat → Int64} {x1 : Int32} {x2 : Int32} {x3 : Int32} (hct : Ct G M_X9_setChime [.ref 0, .int x1, .int x2, .int x3] (SH, mm, lm) false (.inr "java/lang/IllegalArgumentException") (SH, mm1, lm) false 1 6) :
    Ct G M_L_setChime [.ref 0, .int x1, .int x2, .int x3, .ref 85] (SH, mm, lm) false (.inl (some (.int 2))) (SH, mm1, lm) false 1 6 := by
  refine ct_of_JH (by decide +kernel) rfl (Nat.le_of_ble_eq_true rfl) ?_
  refine J_aload (i := 4) rfl dL_setChime_0 ?_
  refine J_iconst (v := 0) (by decide) dL_setChime_2 ?_
  refine J_aload_n rfl (i := 0) rfl dL_setChime_3 ?_
  refine J_iload_n rfl (i := 1) rfl dL_setChime_4 ?_
  refine J_iload_n rfl (i := 2) rfl dL_setChime_5 ?_
  refine J_iload_n rfl (i := 3) rfl dL_setChime_6 ?_
  refine J_callVc (as := [.int x1, .int x2, .int x3]) (k := 0) (st := [.int 0, .ref 85]) cal_X9_setChime cai_X9_setChime gw_1212 ⟨by decide, by decide⟩ cnt_X9_setChime sh_0 rfl rfl (Nat.le_of_ble_eq_true rfl) dL_setChime_7 ([⟨0, 12, 15, 13⟩] : List ExceptionTableEntry) ⟨0, 12, 19, 19⟩ [] rfl (fun y hy => by
      rcases List.mem_cons.mp hy with rfl | hy
      · exact ⟨by decide, "java/lang/IllegalStateException", gw_623, List.mem_of_getElem? (i := 0) rfl⟩
      · cases hy) (by decide) (by decide) gw_702 (List.mem_of_getElem? (i := 1) rfl) (a1 := 1) (b1 := 6) (a2 := 0) (b2 := 0) hct rfl rfl ?_
  refine Jq_astore (i := 5) (by decide) dL_setChime_19 ?_
  refine J_iconst (v := 2) (by decide) dL_setChime_21 ?_
  exact J_fini (ty := .int) rfl rfl dL_setChime_22 ⟨rfl, rfl⟩
theorem w_clearChime {G : Gx} {mm mm1 : Nat → Nat → Int32} {lm : Nat → Int64} {x1 : Int32} {v : Int32} (hct : Ct G M_X9_clearChime [.ref 0, .int x1] (SH, mm, lm) false (.inl (some (.int v))) (SH, mm1, lm) false 1 6) :
    Ct G M_L_clearChime [.ref 0, .int x1, .ref 85] (SH, mm, lm) false (.inl (some (.int 0))) (SH, mm1, vp_updL lm 0 v.toInt64) false 1 6 := by
  refine ct_of_JH (by decide +kernel) rfl (Nat.le_of_ble_eq_true rfl) ?_
  refine J_aload_n rfl (i := 2) rfl dL_clearChime_0 ?_
  refine J_iconst (v := 0) (by decide) dL_clearChime_1 ?_
  refine J_aload_n rfl (i := 0) rfl dL_clearChime_2 ?_
  refine J_iload_n rfl (i := 1) rfl dL_clearChime_3 ?_
  refine J_callV (as := [.int x1]) (k := 0) (st := [.int 0, .ref 85]) cal_X9_clearChime cai_X9_clearChime gw_1219 ⟨by decide, by decide⟩ cnt_X9_clearChime sh_0 rfl rfl (Nat.le_of_ble_eq_true rfl) dL_clearChime_4 (a1 := 1) (b1 := 6) (a2 := 0) (b2 := 0) rfl rfl hct ?_
  refine J_i2l dL_clearChime_7 ?_
  refine J_last sh_85 sh_out (by unfold vp_in; decide) dL_clearChime_8 ?_
  refine J_goto (tgt := 18) dL_clearChime_9 (by decide) ?_
  refine J_iconst (v := 0) (by decide) dL_clearChime_18 ?_
  exact J_fini (ty := .int) rfl rfl dL_clearChime_19 ⟨rfl, rfl⟩
theorem w1_clearChime {G : Gx} {mm mm1 : Nat → Nat → Int32} {lm : Nat → Int64} {x1 : Int32} (hct : Ct G M_X9_clearChime [.ref 0, .int x1] (SH, mm, lm) false (.inr "java/lang/IllegalStateException") (SH, mm1, lm) false 1 6) :
    Ct G M_L_clearChime [.ref 0, .int x1, .ref 85] (SH, mm, lm) false (.inl (some (.int 1))) (SH, mm1, lm) false 1 6 := by
  refine ct_of_JH (by decide +kernel) rfl (Nat.le_of_ble_eq_true rfl) ?_
  refine J_aload_n rfl (i := 2) rfl dL_clearChime_0 ?_
  refine J_iconst (v := 0) (by decide) dL_clearChime_1 ?_
  refine J_aload_n rfl (i := 0) rfl dL_clearChime_2 ?_
  refine J_iload_n rfl (i := 1) rfl dL_clearChime_3 ?_
  refine J_callVc (as := [.int x1]) (k := 0) (st := [.int 0, .ref 85]) cal_X9_clearChime cai_X9_clearChime gw_1219 ⟨by decide, by decide⟩ cnt_X9_clearChime sh_0 rfl rfl (Nat.le_of_ble_eq_true rfl) dL_clearChime_4 ([] : List ExceptionTableEntry) ⟨0, 9, 12, 13⟩ [⟨0, 9, 15, 19⟩] rfl (fun y hy => by cases hy) (by decide) (by decide) gw_623 (List.mem_of_getElem? (i := 0) rfl) (a1 := 1) (b1 := 6) (a2 := 0) (b2 := 0) hct rfl rfl ?_
  refine Jq_astore_n rfl (i := 3) (by decide) dL_clearChime_12 ?_
  refine J_iconst (v := 1) (by decide) dL_clearChime_13 ?_
  exact J_fini (ty := .int) rfl rfl dL_clearChime_14 ⟨rfl, rfl⟩
theorem w2_clearChime {G : Gx} {mm mm1 : Nat → Nat → Int32} {lm : Nat → Int64} {x1 : Int32} (hct : Ct G M_X9_clearChime [.ref 0, .int x1] (SH, mm, lm) false (.inr "java/lang/IllegalArgumentException") (SH, mm1, lm) false 1 6) :
    Ct G M_L_clearChime [.ref 0, .int x1, .ref 85] (SH, mm, lm) false (.inl (some (.int 2))) (SH, mm1, lm) false 1 6 := by
  refine ct_of_JH (by decide +kernel) rfl (Nat.le_of_ble_eq_true rfl) ?_
  refine J_aload_n rfl (i := 2) rfl dL_clearChime_0 ?_
  refine J_iconst (v := 0) (by decide) dL_clearChime_1 ?_
  refine J_aload_n rfl (i := 0) rfl dL_clearChime_2 ?_
  refine J_iload_n rfl (i := 1) rfl dL_clearChime_3 ?_
  refine J_callVc (as := [.int x1]) (k := 0) (st := [.int 0, .ref 85]) cal_X9_clearChime cai_X9_clearChime gw_1219 ⟨by decide, by decide⟩ cnt_X9_clearChime sh_0 rfl rfl (Nat.le_of_ble_eq_true rfl) dL_clearChime_4 ([⟨0, 9, 12, 13⟩] : List ExceptionTableEntry) ⟨0, 9, 15, 19⟩ [] rfl (fun y hy => by
      rcases List.mem_cons.mp hy with rfl | hy
      · exact ⟨by decide, "java/lang/IllegalStateException", gw_623, List.mem_of_getElem? (i := 0) rfl⟩
      · cases hy) (by decide) (by decide) gw_702 (List.mem_of_getElem? (i := 1) rfl) (a1 := 1) (b1 := 6) (a2 := 0) (b2 := 0) hct rfl rfl ?_
  refine Jq_astore_n rfl (i := 3) (by decide) dL_clearChime_15 ?_
  refine J_iconst (v := 2) (by decide) dL_clearChime_16 ?_
  exact J_fini (ty := .int) rfl rfl dL_clearChime_17 ⟨rfl, rfl⟩
theorem wt_isQuiet {G : Gx} {mm mm1 : Nat → Nat → Int32} {lm : Nat → Int64} {x1 : Int32} (hct : Ct G M_X9_isQuiet [.ref 0, .int x1] (SH, mm, lm) false (.inl (some (.int 1))) (SH, mm1, lm) false 1 6) :
    Ct G M_L_isQuiet [.ref 0, .int x1, .ref 85] (SH, mm, lm) false (.inl (some (.int 0))) (SH, mm1, vp_updL lm 0 1) false 1 6 := by
  refine ct_of_JH (by decide +kernel) rfl (Nat.le_of_ble_eq_true rfl) ?_
  refine J_aload_n rfl (i := 2) rfl dL_isQuiet_0 ?_
  refine J_iconst (v := 0) (by decide) dL_isQuiet_1 ?_
  refine J_aload_n rfl (i := 0) rfl dL_isQuiet_2 ?_
  refine J_iload_n rfl (i := 1) rfl dL_isQuiet_3 ?_
  refine J_callV (as := [.int x1]) (k := 0) (st := [.int 0, .ref 85]) cal_X9_isQuiet cai_X9_isQuiet gw_1235 ⟨by decide, by decide⟩ cnt_X9_isQuiet sh_0 rfl rfl (Nat.le_of_ble_eq_true rfl) dL_isQuiet_4 (a1 := 1) (b1 := 6) (a2 := 0) (b2 := 0) rfl rfl hct ?_
  refine J_if_eq (tgt := 14) dL_isQuiet_7 (by decide) (fun h => absurd h (by decide)) (fun _ => ?_)
  refine J_lconst (v := 1) (by decide) dL_isQuiet_10 ?_
  refine J_goto (tgt := 15) dL_isQuiet_11 (by decide) ?_
  refine J_last sh_85 sh_out (by unfold vp_in; decide) dL_isQuiet_15 ?_
  refine J_goto (tgt := 25) dL_isQuiet_16 (by decide) ?_
  refine J_iconst (v := 0) (by decide) dL_isQuiet_25 ?_
  exact J_fini (ty := .int) rfl rfl dL_isQuiet_26 ⟨rfl, rfl⟩
theorem wf_isQuiet {G : Gx} {mm mm1 : Nat → Nat → Int32} {lm : Nat → Int64} {x1 : Int32} (hct : Ct G M_X9_isQuiet [.ref 0, .int x1] (SH, mm, lm) false (.inl (some (.int 0))) (SH, mm1, lm) false 1 6) :
    Ct G M_L_isQuiet [.ref 0, .int x1, .ref 85] (SH, mm, lm) false (.inl (some (.int 0))) (SH, mm1, vp_updL lm 0 0) false 1 6 := by
  refine ct_of_JH (by decide +kernel) rfl (Nat.le_of_ble_eq_true rfl) ?_
  refine J_aload_n rfl (i := 2) rfl dL_isQuiet_0 ?_
  refine J_iconst (v := 0) (by decide) dL_isQuiet_1 ?_
  refine J_aload_n rfl (i := 0) rfl dL_isQuiet_2 ?_
  refine J_iload_n rfl (i := 1) rfl dL_isQuiet_3 ?_
  refine J_callV (as := [.int x1]) (k := 0) (st := [.int 0, .ref 85]) cal_X9_isQuiet cai_X9_isQuiet gw_1235 ⟨by decide, by decide⟩ cnt_X9_isQuiet sh_0 rfl rfl (Nat.le_of_ble_eq_true rfl) dL_isQuiet_4 (a1 := 1) (b1 := 6) (a2 := 0) (b2 := 0) rfl rfl hct ?_
  refine J_if_eq (tgt := 14) dL_isQuiet_7 (by decide) (fun _ => ?_) (fun h => absurd rfl h)
  refine J_lconst (v := 0) (by decide) dL_isQuiet_14 ?_
  refine J_last sh_85 sh_out (by unfold vp_in; decide) dL_isQuiet_15 ?_
  refine J_goto (tgt := 25) dL_isQuiet_16 (by decide) ?_
  refine J_iconst (v := 0) (by decide) dL_isQuiet_25 ?_
  exact J_fini (ty := .int) rfl rfl dL_isQuiet_26 ⟨rfl, rfl⟩
theorem w1_isQuiet {G : Gx} {mm mm1 : Nat → Nat → Int32} {lm : Nat → Int64} {x1 : Int32} (hct : Ct G M_X9_isQuiet [.ref 0, .int x1] (SH, mm, lm) false (.inr "java/lang/IllegalStateException") (SH, mm1, lm) false 1 6) :
    Ct G M_L_isQuiet [.ref 0, .int x1, .ref 85] (SH, mm, lm) false (.inl (some (.int 1))) (SH, mm1, lm) false 1 6 := by
  refine ct_of_JH (by decide +kernel) rfl (Nat.le_of_ble_eq_true rfl) ?_
  refine J_aload_n rfl (i := 2) rfl dL_isQuiet_0 ?_
  refine J_iconst (v := 0) (by decide) dL_isQuiet_1 ?_
  refine J_aload_n rfl (i := 0) rfl dL_isQuiet_2 ?_
  refine J_iload_n rfl (i := 1) rfl dL_isQuiet_3 ?_
  refine J_callVc (as := [.int x1]) (k := 0) (st := [.int 0, .ref 85]) cal_X9_isQuiet cai_X9_isQuiet gw_1235 ⟨by decide, by decide⟩ cnt_X9_isQuiet sh_0 rfl rfl (Nat.le_of_ble_eq_true rfl) dL_isQuiet_4 ([] : List ExceptionTableEntry) ⟨0, 16, 19, 13⟩ [⟨0, 16, 22, 19⟩] rfl (fun y hy => by cases hy) (by decide) (by decide) gw_623 (List.mem_of_getElem? (i := 0) rfl) (a1 := 1) (b1 := 6) (a2 := 0) (b2 := 0) hct rfl rfl ?_
  refine Jq_astore_n rfl (i := 3) (by decide) dL_isQuiet_19 ?_
  refine J_iconst (v := 1) (by decide) dL_isQuiet_20 ?_
  exact J_fini (ty := .int) rfl rfl dL_isQuiet_21 ⟨rfl, rfl⟩
theorem w2_isQuiet {G : Gx} {mm mm1 : Nat → Nat → Int32} {lm : Nat → Int64} {x1 : Int32} (hct : Ct G M_X9_isQuiet [.ref 0, .int x1] (SH, mm, lm) false (.inr "java/lang/IllegalArgumentException") (SH, mm1, lm) false 1 6) :
    Ct G M_L_isQuiet [.ref 0, .int x1, .ref 85] (SH, mm, lm) false (.inl (some (.int 2))) (SH, mm1, lm) false 1 6 := by
  refine ct_of_JH (by decide +kernel) rfl (Nat.le_of_ble_eq_true rfl) ?_
  refine J_aload_n rfl (i := 2) rfl dL_isQuiet_0 ?_
  refine J_iconst (v := 0) (by decide) dL_isQuiet_1 ?_
  refine J_aload_n rfl (i := 0) rfl dL_isQuiet_2 ?_
  refine J_iload_n rfl (i := 1) rfl dL_isQuiet_3 ?_
  refine J_callVc (as := [.int x1]) (k := 0) (st := [.int 0, .ref 85]) cal_X9_isQuiet cai_X9_isQuiet gw_1235 ⟨by decide, by decide⟩ cnt_X9_isQuiet sh_0 rfl rfl (Nat.le_of_ble_eq_true rfl) dL_isQuiet_4 ([⟨0, 16, 19, 13⟩] : List ExceptionTableEntry) ⟨0, 16, 22, 19⟩ [] rfl (fun y hy => by
      rcases List.mem_cons.mp hy with rfl | hy
      · exact ⟨by decide, "java/lang/IllegalStateException", gw_623, List.mem_of_getElem? (i := 0) rfl⟩
      · cases hy) (by decide) (by decide) gw_702 (List.mem_of_getElem? (i := 1) rfl) (a1 := 1) (b1 := 6) (a2 := 0) (b2 := 0) hct rfl rfl ?_
  refine Jq_astore_n rfl (i := 3) (by decide) dL_isQuiet_22 ?_
  refine J_iconst (v := 2) (by decide) dL_isQuiet_23 ?_
  exact J_fini (ty := .int) rfl rfl dL_isQuiet_24 ⟨rfl, rfl⟩
theorem w_quietMinutes {G : Gx} {mm mm1 : Nat → Nat → Int32} {lm : Nat → Int64}  {v : Int32} (hct : Ct G M_X9_quietMinutes [.ref 0] (SH, mm, lm) false (.inl (some (.int v))) (SH, mm1, lm) false 1 6) :
    Ct G M_L_quietMinutes [.ref 0, .ref 85] (SH, mm, lm) false (.inl (some (.int 0))) (SH, mm1, vp_updL lm 0 v.toInt64) false 1 6 := by
  refine ct_of_JH (by decide +kernel) rfl (Nat.le_of_ble_eq_true rfl) ?_
  refine J_aload_n rfl (i := 1) rfl dL_quietMinutes_0 ?_
  refine J_iconst (v := 0) (by decide) dL_quietMinutes_1 ?_
  refine J_aload_n rfl (i := 0) rfl dL_quietMinutes_2 ?_
  refine J_callV (as := []) (k := 0) (st := [.int 0, .ref 85]) cal_X9_quietMinutes cai_X9_quietMinutes gw_1242 ⟨by decide, by decide⟩ cnt_X9_quietMinutes sh_0 rfl rfl (Nat.le_of_ble_eq_true rfl) dL_quietMinutes_3 (a1 := 1) (b1 := 6) (a2 := 0) (b2 := 0) rfl rfl hct ?_
  refine J_i2l dL_quietMinutes_6 ?_
  refine J_last sh_85 sh_out (by unfold vp_in; decide) dL_quietMinutes_7 ?_
  refine J_goto (tgt := 14) dL_quietMinutes_8 (by decide) ?_
  refine J_iconst (v := 0) (by decide) dL_quietMinutes_14 ?_
  exact J_fini (ty := .int) rfl rfl dL_quietMinutes_15 ⟨rfl, rfl⟩
theorem w1_quietMinutes {G : Gx} {mm mm1 : Nat → Nat → Int32} {lm : Nat → Int64}  (hct : Ct G M_X9_quietMinutes [.ref 0] (SH, mm, lm) false (.inr "java/lang/IllegalStateException") (SH, mm1, lm) false 1 6) :
    Ct G M_L_quietMinutes [.ref 0, .ref 85] (SH, mm, lm) false (.inl (some (.int 1))) (SH, mm1, lm) false 1 6 := by
  refine ct_of_JH (by decide +kernel) rfl (Nat.le_of_ble_eq_true rfl) ?_
  refine J_aload_n rfl (i := 1) rfl dL_quietMinutes_0 ?_
  refine J_iconst (v := 0) (by decide) dL_quietMinutes_1 ?_
  refine J_aload_n rfl (i := 0) rfl dL_quietMinutes_2 ?_
  refine J_callVc (as := []) (k := 0) (st := [.int 0, .ref 85]) cal_X9_quietMinutes cai_X9_quietMinutes gw_1242 ⟨by decide, by decide⟩ cnt_X9_quietMinutes sh_0 rfl rfl (Nat.le_of_ble_eq_true rfl) dL_quietMinutes_3 ([] : List ExceptionTableEntry) ⟨0, 8, 11, 13⟩ [] rfl (fun y hy => by cases hy) (by decide) (by decide) gw_623 (List.mem_of_getElem? (i := 0) rfl) (a1 := 1) (b1 := 6) (a2 := 0) (b2 := 0) hct rfl rfl ?_
  refine Jq_astore_n rfl (i := 2) (by decide) dL_quietMinutes_11 ?_
  refine J_iconst (v := 1) (by decide) dL_quietMinutes_12 ?_
  exact J_fini (ty := .int) rfl rfl dL_quietMinutes_13 ⟨rfl, rfl⟩
theorem w_longestLoud {G : Gx} {mm mm1 : Nat → Nat → Int32} {lm : Nat → Int64}  {v : Int32} (hct : Ct G M_X9_longestLoud [.ref 0] (SH, mm, lm) false (.inl (some (.int v))) (SH, mm1, lm) false 1 6) :
    Ct G M_L_longestLoud [.ref 0, .ref 85] (SH, mm, lm) false (.inl (some (.int 0))) (SH, mm1, vp_updL lm 0 v.toInt64) false 1 6 := by
  refine ct_of_JH (by decide +kernel) rfl (Nat.le_of_ble_eq_true rfl) ?_
  refine J_aload_n rfl (i := 1) rfl dL_longestLoud_0 ?_
  refine J_iconst (v := 0) (by decide) dL_longestLoud_1 ?_
  refine J_aload_n rfl (i := 0) rfl dL_longestLoud_2 ?_
  refine J_callV (as := []) (k := 0) (st := [.int 0, .ref 85]) cal_X9_longestLoud cai_X9_longestLoud gw_1253 ⟨by decide, by decide⟩ cnt_X9_longestLoud sh_0 rfl rfl (Nat.le_of_ble_eq_true rfl) dL_longestLoud_3 (a1 := 1) (b1 := 6) (a2 := 0) (b2 := 0) rfl rfl hct ?_
  refine J_i2l dL_longestLoud_6 ?_
  refine J_last sh_85 sh_out (by unfold vp_in; decide) dL_longestLoud_7 ?_
  refine J_goto (tgt := 14) dL_longestLoud_8 (by decide) ?_
  refine J_iconst (v := 0) (by decide) dL_longestLoud_14 ?_
  exact J_fini (ty := .int) rfl rfl dL_longestLoud_15 ⟨rfl, rfl⟩
theorem w1_longestLoud {G : Gx} {mm mm1 : Nat → Nat → Int32} {lm : Nat → Int64}  (hct : Ct G M_X9_longestLoud [.ref 0] (SH, mm, lm) false (.inr "java/lang/IllegalStateException") (SH, mm1, lm) false 1 6) :
    Ct G M_L_longestLoud [.ref 0, .ref 85] (SH, mm, lm) false (.inl (some (.int 1))) (SH, mm1, lm) false 1 6 := by
  refine ct_of_JH (by decide +kernel) rfl (Nat.le_of_ble_eq_true rfl) ?_
  refine J_aload_n rfl (i := 1) rfl dL_longestLoud_0 ?_
  refine J_iconst (v := 0) (by decide) dL_longestLoud_1 ?_
  refine J_aload_n rfl (i := 0) rfl dL_longestLoud_2 ?_
  refine J_callVc (as := []) (k := 0) (st := [.int 0, .ref 85]) cal_X9_longestLoud cai_X9_longestLoud gw_1253 ⟨by decide, by decide⟩ cnt_X9_longestLoud sh_0 rfl rfl (Nat.le_of_ble_eq_true rfl) dL_longestLoud_3 ([] : List ExceptionTableEntry) ⟨0, 8, 11, 13⟩ [] rfl (fun y hy => by cases hy) (by decide) (by decide) gw_623 (List.mem_of_getElem? (i := 0) rfl) (a1 := 1) (b1 := 6) (a2 := 0) (b2 := 0) hct rfl rfl ?_
  refine Jq_astore_n rfl (i := 2) (by decide) dL_longestLoud_11 ?_
  refine J_iconst (v := 1) (by decide) dL_longestLoud_12 ?_
  exact J_fini (ty := .int) rfl rfl dL_longestLoud_13 ⟨rfl, rfl⟩
theorem w_soundsAt {G : Gx} {mm mm1 : Nat → Nat → Int32} {lm : Nat → Int64} {x1 : Int32} {v : Int32} (hct : Ct G M_X9_soundsAt [.ref 0, .int x1] (SH, mm, lm) false (.inl (some (.int v))) (SH, mm1, lm) false 1 6) :
    Ct G M_L_soundsAt [.ref 0, .int x1, .ref 85] (SH, mm, lm) false (.inl (some (.int 0))) (SH, mm1, vp_updL lm 0 v.toInt64) false 1 6 := by
  refine ct_of_JH (by decide +kernel) rfl (Nat.le_of_ble_eq_true rfl) ?_
  refine J_aload_n rfl (i := 2) rfl dL_soundsAt_0 ?_
  refine J_iconst (v := 0) (by decide) dL_soundsAt_1 ?_
  refine J_aload_n rfl (i := 0) rfl dL_soundsAt_2 ?_
  refine J_iload_n rfl (i := 1) rfl dL_soundsAt_3 ?_
  refine J_callV (as := [.int x1]) (k := 0) (st := [.int 0, .ref 85]) cal_X9_soundsAt cai_X9_soundsAt gw_1264 ⟨by decide, by decide⟩ cnt_X9_soundsAt sh_0 rfl rfl (Nat.le_of_ble_eq_true rfl) dL_soundsAt_4 (a1 := 1) (b1 := 6) (a2 := 0) (b2 := 0) rfl rfl hct ?_
  refine J_i2l dL_soundsAt_7 ?_
  refine J_last sh_85 sh_out (by unfold vp_in; decide) dL_soundsAt_8 ?_
  refine J_goto (tgt := 18) dL_soundsAt_9 (by decide) ?_
  refine J_iconst (v := 0) (by decide) dL_soundsAt_18 ?_
  exact J_fini (ty := .int) rfl rfl dL_soundsAt_19 ⟨rfl, rfl⟩
theorem w1_soundsAt {G : Gx} {mm mm1 : Nat → Nat → Int32} {lm : Nat → Int64} {x1 : Int32} (hct : Ct G M_X9_soundsAt [.ref 0, .int x1] (SH, mm, lm) false (.inr "java/lang/IllegalStateException") (SH, mm1, lm) false 1 6) :
    Ct G M_L_soundsAt [.ref 0, .int x1, .ref 85] (SH, mm, lm) false (.inl (some (.int 1))) (SH, mm1, lm) false 1 6 := by
  refine ct_of_JH (by decide +kernel) rfl (Nat.le_of_ble_eq_true rfl) ?_
  refine J_aload_n rfl (i := 2) rfl dL_soundsAt_0 ?_
  refine J_iconst (v := 0) (by decide) dL_soundsAt_1 ?_
  refine J_aload_n rfl (i := 0) rfl dL_soundsAt_2 ?_
  refine J_iload_n rfl (i := 1) rfl dL_soundsAt_3 ?_
  refine J_callVc (as := [.int x1]) (k := 0) (st := [.int 0, .ref 85]) cal_X9_soundsAt cai_X9_soundsAt gw_1264 ⟨by decide, by decide⟩ cnt_X9_soundsAt sh_0 rfl rfl (Nat.le_of_ble_eq_true rfl) dL_soundsAt_4 ([] : List ExceptionTableEntry) ⟨0, 9, 12, 13⟩ [⟨0, 9, 15, 19⟩] rfl (fun y hy => by cases hy) (by decide) (by decide) gw_623 (List.mem_of_getElem? (i := 0) rfl) (a1 := 1) (b1 := 6) (a2 := 0) (b2 := 0) hct rfl rfl ?_
  refine Jq_astore_n rfl (i := 3) (by decide) dL_soundsAt_12 ?_
  refine J_iconst (v := 1) (by decide) dL_soundsAt_13 ?_
  exact J_fini (ty := .int) rfl rfl dL_soundsAt_14 ⟨rfl, rfl⟩
theorem w2_soundsAt {G : Gx} {mm mm1 : Nat → Nat → Int32} {lm : Nat → Int64} {x1 : Int32} (hct : Ct G M_X9_soundsAt [.ref 0, .int x1] (SH, mm, lm) false (.inr "java/lang/IllegalArgumentException") (SH, mm1, lm) false 1 6) :
    Ct G M_L_soundsAt [.ref 0, .int x1, .ref 85] (SH, mm, lm) false (.inl (some (.int 2))) (SH, mm1, lm) false 1 6 := by
  refine ct_of_JH (by decide +kernel) rfl (Nat.le_of_ble_eq_true rfl) ?_
  refine J_aload_n rfl (i := 2) rfl dL_soundsAt_0 ?_
  refine J_iconst (v := 0) (by decide) dL_soundsAt_1 ?_
  refine J_aload_n rfl (i := 0) rfl dL_soundsAt_2 ?_
  refine J_iload_n rfl (i := 1) rfl dL_soundsAt_3 ?_
  refine J_callVc (as := [.int x1]) (k := 0) (st := [.int 0, .ref 85]) cal_X9_soundsAt cai_X9_soundsAt gw_1264 ⟨by decide, by decide⟩ cnt_X9_soundsAt sh_0 rfl rfl (Nat.le_of_ble_eq_true rfl) dL_soundsAt_4 ([⟨0, 9, 12, 13⟩] : List ExceptionTableEntry) ⟨0, 9, 15, 19⟩ [] rfl (fun y hy => by
      rcases List.mem_cons.mp hy with rfl | hy
      · exact ⟨by decide, "java/lang/IllegalStateException", gw_623, List.mem_of_getElem? (i := 0) rfl⟩
      · cases hy) (by decide) (by decide) gw_702 (List.mem_of_getElem? (i := 1) rfl) (a1 := 1) (b1 := 6) (a2 := 0) (b2 := 0) hct rfl rfl ?_
  refine Jq_astore_n rfl (i := 3) (by decide) dL_soundsAt_15 ?_
  refine J_iconst (v := 2) (by decide) dL_soundsAt_16 ?_
  exact J_fini (ty := .int) rfl rfl dL_soundsAt_17 ⟨rfl, rfl⟩
theorem w_soundsPerDay {G : Gx} {mm mm1 : Nat → Nat → Int32} {lm : Nat → Int64} {x1 : Int32} {v : Int32} (hct : Ct G M_X9_soundsPerDay [.ref 0, .int x1] (SH, mm, lm) false (.inl (some (.int v))) (SH, mm1, lm) false 1 6) :
    Ct G M_L_soundsPerDay [.ref 0, .int x1, .ref 85] (SH, mm, lm) false (.inl (some (.int 0))) (SH, mm1, vp_updL lm 0 v.toInt64) false 1 6 := by
  refine ct_of_JH (by decide +kernel) rfl (Nat.le_of_ble_eq_true rfl) ?_
  refine J_aload_n rfl (i := 2) rfl dL_soundsPerDay_0 ?_
  refine J_iconst (v := 0) (by decide) dL_soundsPerDay_1 ?_
  refine J_aload_n rfl (i := 0) rfl dL_soundsPerDay_2 ?_
  refine J_iload_n rfl (i := 1) rfl dL_soundsPerDay_3 ?_
  refine J_callV (as := [.int x1]) (k := 0) (st := [.int 0, .ref 85]) cal_X9_soundsPerDay cai_X9_soundsPerDay gw_1285 ⟨by decide, by decide⟩ cnt_X9_soundsPerDay sh_0 rfl rfl (Nat.le_of_ble_eq_true rfl) dL_soundsPerDay_4 (a1 := 1) (b1 := 6) (a2 := 0) (b2 := 0) rfl rfl hct ?_
  refine J_i2l dL_soundsPerDay_7 ?_
  refine J_last sh_85 sh_out (by unfold vp_in; decide) dL_soundsPerDay_8 ?_
  refine J_goto (tgt := 18) dL_soundsPerDay_9 (by decide) ?_
  refine J_iconst (v := 0) (by decide) dL_soundsPerDay_18 ?_
  exact J_fini (ty := .int) rfl rfl dL_soundsPerDay_19 ⟨rfl, rfl⟩
theorem w1_soundsPerDay {G : Gx} {mm mm1 : Nat → Nat → Int32} {lm : Nat → Int64} {x1 : Int32} (hct : Ct G M_X9_soundsPerDay [.ref 0, .int x1] (SH, mm, lm) false (.inr "java/lang/IllegalStateException") (SH, mm1, lm) false 1 6) :
    Ct G M_L_soundsPerDay [.ref 0, .int x1, .ref 85] (SH, mm, lm) false (.inl (some (.int 1))) (SH, mm1, lm) false 1 6 := by
  refine ct_of_JH (by decide +kernel) rfl (Nat.le_of_ble_eq_true rfl) ?_
  refine J_aload_n rfl (i := 2) rfl dL_soundsPerDay_0 ?_
  refine J_iconst (v := 0) (by decide) dL_soundsPerDay_1 ?_
  refine J_aload_n rfl (i := 0) rfl dL_soundsPerDay_2 ?_
  refine J_iload_n rfl (i := 1) rfl dL_soundsPerDay_3 ?_
  refine J_callVc (as := [.int x1]) (k := 0) (st := [.int 0, .ref 85]) cal_X9_soundsPerDay cai_X9_soundsPerDay gw_1285 ⟨by decide, by decide⟩ cnt_X9_soundsPerDay sh_0 rfl rfl (Nat.le_of_ble_eq_true rfl) dL_soundsPerDay_4 ([] : List ExceptionTableEntry) ⟨0, 9, 12, 13⟩ [⟨0, 9, 15, 19⟩] rfl (fun y hy => by cases hy) (by decide) (by decide) gw_623 (List.mem_of_getElem? (i := 0) rfl) (a1 := 1) (b1 := 6) (a2 := 0) (b2 := 0) hct rfl rfl ?_
  refine Jq_astore_n rfl (i := 3) (by decide) dL_soundsPerDay_12 ?_
  refine J_iconst (v := 1) (by decide) dL_soundsPerDay_13 ?_
  exact J_fini (ty := .int) rfl rfl dL_soundsPerDay_14 ⟨rfl, rfl⟩
theorem w2_soundsPerDay {G : Gx} {mm mm1 : Nat → Nat → Int32} {lm : Nat → Int64} {x1 : Int32} (hct : Ct G M_X9_soundsPerDay [.ref 0, .int x1] (SH, mm, lm) false (.inr "java/lang/IllegalArgumentException") (SH, mm1, lm) false 1 6) :
    Ct G M_L_soundsPerDay [.ref 0, .int x1, .ref 85] (SH, mm, lm) false (.inl (some (.int 2))) (SH, mm1, lm) false 1 6 := by
  refine ct_of_JH (by decide +kernel) rfl (Nat.le_of_ble_eq_true rfl) ?_
  refine J_aload_n rfl (i := 2) rfl dL_soundsPerDay_0 ?_
  refine J_iconst (v := 0) (by decide) dL_soundsPerDay_1 ?_
  refine J_aload_n rfl (i := 0) rfl dL_soundsPerDay_2 ?_
  refine J_iload_n rfl (i := 1) rfl dL_soundsPerDay_3 ?_
  refine J_callVc (as := [.int x1]) (k := 0) (st := [.int 0, .ref 85]) cal_X9_soundsPerDay cai_X9_soundsPerDay gw_1285 ⟨by decide, by decide⟩ cnt_X9_soundsPerDay sh_0 rfl rfl (Nat.le_of_ble_eq_true rfl) dL_soundsPerDay_4 ([⟨0, 9, 12, 13⟩] : List ExceptionTableEntry) ⟨0, 9, 15, 19⟩ [] rfl (fun y hy => by
      rcases List.mem_cons.mp hy with rfl | hy
      · exact ⟨by decide, "java/lang/IllegalStateException", gw_623, List.mem_of_getElem? (i := 0) rfl⟩
      · cases hy) (by decide) (by decide) gw_702 (List.mem_of_getElem? (i := 1) rfl) (a1 := 1) (b1 := 6) (a2 := 0) (b2 := 0) hct rfl rfl ?_
  refine Jq_astore_n rfl (i := 3) (by decide) dL_soundsPerDay_15 ?_
  refine J_iconst (v := 2) (by decide) dL_soundsPerDay_16 ?_
  exact J_fini (ty := .int) rfl rfl dL_soundsPerDay_17 ⟨rfl, rfl⟩
theorem w_nextSound {G : Gx} {mm mm1 : Nat → Nat → Int32} {lm : Nat → Int64} {x1 : Int32} {v : Int32} (hct : Ct G M_X9_nextSound [.ref 0, .int x1] (SH, mm, lm) false (.inl (some (.int v))) (SH, mm1, lm) false 1 6) :
    Ct G M_L_nextSound [.ref 0, .int x1, .ref 85] (SH, mm, lm) false (.inl (some (.int 0))) (SH, mm1, vp_updL lm 0 v.toInt64) false 1 6 := by
  refine ct_of_JH (by decide +kernel) rfl (Nat.le_of_ble_eq_true rfl) ?_
  refine J_aload_n rfl (i := 2) rfl dL_nextSound_0 ?_
  refine J_iconst (v := 0) (by decide) dL_nextSound_1 ?_
  refine J_aload_n rfl (i := 0) rfl dL_nextSound_2 ?_
  refine J_iload_n rfl (i := 1) rfl dL_nextSound_3 ?_
  refine J_callV (as := [.int x1]) (k := 0) (st := [.int 0, .ref 85]) cal_X9_nextSound cai_X9_nextSound gw_1296 ⟨by decide, by decide⟩ cnt_X9_nextSound sh_0 rfl rfl (Nat.le_of_ble_eq_true rfl) dL_nextSound_4 (a1 := 1) (b1 := 6) (a2 := 0) (b2 := 0) rfl rfl hct ?_
  refine J_i2l dL_nextSound_7 ?_
  refine J_last sh_85 sh_out (by unfold vp_in; decide) dL_nextSound_8 ?_
  refine J_goto (tgt := 18) dL_nextSound_9 (by decide) ?_
  refine J_iconst (v := 0) (by decide) dL_nextSound_18 ?_
  exact J_fini (ty := .int) rfl rfl dL_nextSound_19 ⟨rfl, rfl⟩
theorem w1_nextSound {G : Gx} {mm mm1 : Nat → Nat → Int32} {lm : Nat → Int64} {x1 : Int32} (hct : Ct G M_X9_nextSound [.ref 0, .int x1] (SH, mm, lm) false (.inr "java/lang/IllegalStateException") (SH, mm1, lm) false 1 6) :
    Ct G M_L_nextSound [.ref 0, .int x1, .ref 85] (SH, mm, lm) false (.inl (some (.int 1))) (SH, mm1, lm) false 1 6 := by
  refine ct_of_JH (by decide +kernel) rfl (Nat.le_of_ble_eq_true rfl) ?_
  refine J_aload_n rfl (i := 2) rfl dL_nextSound_0 ?_
  refine J_iconst (v := 0) (by decide) dL_nextSound_1 ?_
  refine J_aload_n rfl (i := 0) rfl dL_nextSound_2 ?_
  refine J_iload_n rfl (i := 1) rfl dL_nextSound_3 ?_
  refine J_callVc (as := [.int x1]) (k := 0) (st := [.int 0, .ref 85]) cal_X9_nextSound cai_X9_nextSound gw_1296 ⟨by decide, by decide⟩ cnt_X9_nextSound sh_0 rfl rfl (Nat.le_of_ble_eq_true rfl) dL_nextSound_4 ([] : List ExceptionTableEntry) ⟨0, 9, 12, 13⟩ [⟨0, 9, 15, 19⟩] rfl (fun y hy => by cases hy) (by decide) (by decide) gw_623 (List.mem_of_getElem? (i := 0) rfl) (a1 := 1) (b1 := 6) (a2 := 0) (b2 := 0) hct rfl rfl ?_
  refine Jq_astore_n rfl (i := 3) (by decide) dL_nextSound_12 ?_
  refine J_iconst (v := 1) (by decide) dL_nextSound_13 ?_
  exact J_fini (ty := .int) rfl rfl dL_nextSound_14 ⟨rfl, rfl⟩
theorem w2_nextSound {G : Gx} {mm mm1 : Nat → Nat → Int32} {lm : Nat → Int64} {x1 : Int32} (hct : Ct G M_X9_nextSound [.ref 0, .int x1] (SH, mm, lm) false (.inr "java/lang/IllegalArgumentException") (SH, mm1, lm) false 1 6) :
    Ct G M_L_nextSound [.ref 0, .int x1, .ref 85] (SH, mm, lm) false (.inl (some (.int 2))) (SH, mm1, lm) false 1 6 := by
  refine ct_of_JH (by decide +kernel) rfl (Nat.le_of_ble_eq_true rfl) ?_
  refine J_aload_n rfl (i := 2) rfl dL_nextSound_0 ?_
  refine J_iconst (v := 0) (by decide) dL_nextSound_1 ?_
  refine J_aload_n rfl (i := 0) rfl dL_nextSound_2 ?_
  refine J_iload_n rfl (i := 1) rfl dL_nextSound_3 ?_
  refine J_callVc (as := [.int x1]) (k := 0) (st := [.int 0, .ref 85]) cal_X9_nextSound cai_X9_nextSound gw_1296 ⟨by decide, by decide⟩ cnt_X9_nextSound sh_0 rfl rfl (Nat.le_of_ble_eq_true rfl) dL_nextSound_4 ([⟨0, 9, 12, 13⟩] : List ExceptionTableEntry) ⟨0, 9, 15, 19⟩ [] rfl (fun y hy => by
      rcases List.mem_cons.mp hy with rfl | hy
      · exact ⟨by decide, "java/lang/IllegalStateException", gw_623, List.mem_of_getElem? (i := 0) rfl⟩
      · cases hy) (by decide) (by decide) gw_702 (List.mem_of_getElem? (i := 1) rfl) (a1 := 1) (b1 := 6) (a2 := 0) (b2 := 0) hct rfl rfl ?_
  refine Jq_astore_n rfl (i := 3) (by decide) dL_nextSound_15 ?_
  refine J_iconst (v := 2) (by decide) dL_nextSound_16 ?_
  exact J_fini (ty := .int) rfl rfl dL_nextSound_17 ⟨rfl, rfl⟩
theorem w_busiestMinute {G : Gx} {mm mm1 : Nat → Nat → Int32} {lm : Nat → Int64}  {v : Int32} (hct : Ct G M_X9_busiestMinute [.ref 0] (SH, mm, lm) false (.inl (some (.int v))) (SH, mm1, lm) false 1 6) :
    Ct G M_L_busiestMinute [.ref 0, .ref 85] (SH, mm, lm) false (.inl (some (.int 0))) (SH, mm1, vp_updL lm 0 v.toInt64) false 1 6 := by
  refine ct_of_JH (by decide +kernel) rfl (Nat.le_of_ble_eq_true rfl) ?_
  refine J_aload_n rfl (i := 1) rfl dL_busiestMinute_0 ?_
  refine J_iconst (v := 0) (by decide) dL_busiestMinute_1 ?_
  refine J_aload_n rfl (i := 0) rfl dL_busiestMinute_2 ?_
  refine J_callV (as := []) (k := 0) (st := [.int 0, .ref 85]) cal_X9_busiestMinute cai_X9_busiestMinute gw_1308 ⟨by decide, by decide⟩ cnt_X9_busiestMinute sh_0 rfl rfl (Nat.le_of_ble_eq_true rfl) dL_busiestMinute_3 (a1 := 1) (b1 := 6) (a2 := 0) (b2 := 0) rfl rfl hct ?_
  refine J_i2l dL_busiestMinute_6 ?_
  refine J_last sh_85 sh_out (by unfold vp_in; decide) dL_busiestMinute_7 ?_
  refine J_goto (tgt := 14) dL_busiestMinute_8 (by decide) ?_
  refine J_iconst (v := 0) (by decide) dL_busiestMinute_14 ?_
  exact J_fini (ty := .int) rfl rfl dL_busiestMinute_15 ⟨rfl, rfl⟩
theorem w1_busiestMinute {G : Gx} {mm mm1 : Nat → Nat → Int32} {lm : Nat → Int64}  (hct : Ct G M_X9_busiestMinute [.ref 0] (SH, mm, lm) false (.inr "java/lang/IllegalStateException") (SH, mm1, lm) false 1 6) :
    Ct G M_L_busiestMinute [.ref 0, .ref 85] (SH, mm, lm) false (.inl (some (.int 1))) (SH, mm1, lm) false 1 6 := by
  refine ct_of_JH (by decide +kernel) rfl (Nat.le_of_ble_eq_true rfl) ?_
  refine J_aload_n rfl (i := 1) rfl dL_busiestMinute_0 ?_
  refine J_iconst (v := 0) (by decide) dL_busiestMinute_1 ?_
  refine J_aload_n rfl (i := 0) rfl dL_busiestMinute_2 ?_
  refine J_callVc (as := []) (k := 0) (st := [.int 0, .ref 85]) cal_X9_busiestMinute cai_X9_busiestMinute gw_1308 ⟨by decide, by decide⟩ cnt_X9_busiestMinute sh_0 rfl rfl (Nat.le_of_ble_eq_true rfl) dL_busiestMinute_3 ([] : List ExceptionTableEntry) ⟨0, 8, 11, 13⟩ [] rfl (fun y hy => by cases hy) (by decide) (by decide) gw_623 (List.mem_of_getElem? (i := 0) rfl) (a1 := 1) (b1 := 6) (a2 := 0) (b2 := 0) hct rfl rfl ?_
  refine Jq_astore_n rfl (i := 2) (by decide) dL_busiestMinute_11 ?_
  refine J_iconst (v := 1) (by decide) dL_busiestMinute_12 ?_
  exact J_fini (ty := .int) rfl rfl dL_busiestMinute_13 ⟨rfl, rfl⟩
theorem w_soundTogether {G : Gx} {mm mm1 : Nat → Nat → Int32} {lm : Nat → Int64} {x1 : Int32} {x2 : Int32} {v : Int32} (hct : Ct G M_X9_soundTogether [.ref 0, .int x1, .int x2] (SH, mm, lm) false (.inl (some (.int v))) (SH, mm1, lm) false 1 6) :
    Ct G M_L_soundTogether [.ref 0, .int x1, .int x2, .ref 85] (SH, mm, lm) false (.inl (some (.int 0))) (SH, mm1, vp_updL lm 0 v.toInt64) false 1 6 := by
  refine ct_of_JH (by decide +kernel) rfl (Nat.le_of_ble_eq_true rfl) ?_
  refine J_aload_n rfl (i := 3) rfl dL_soundTogether_0 ?_
  refine J_iconst (v := 0) (by decide) dL_soundTogether_1 ?_
  refine J_aload_n rfl (i := 0) rfl dL_soundTogether_2 ?_
  refine J_iload_n rfl (i := 1) rfl dL_soundTogether_3 ?_
  refine J_iload_n rfl (i := 2) rfl dL_soundTogether_4 ?_
  refine J_callV (as := [.int x1, .int x2]) (k := 0) (st := [.int 0, .ref 85]) cal_X9_soundTogether cai_X9_soundTogether gw_1320 ⟨by decide, by decide⟩ cnt_X9_soundTogether sh_0 rfl rfl (Nat.le_of_ble_eq_true rfl) dL_soundTogether_5 (a1 := 1) (b1 := 6) (a2 := 0) (b2 := 0) rfl rfl hct ?_
  refine J_i2l dL_soundTogether_8 ?_
  refine J_last sh_85 sh_out (by unfold vp_in; decide) dL_soundTogether_9 ?_
  refine J_goto (tgt := 21) dL_soundTogether_10 (by decide) ?_
  refine J_iconst (v := 0) (by decide) dL_soundTogether_21 ?_
  exact J_fini (ty := .int) rfl rfl dL_soundTogether_22 ⟨rfl, rfl⟩
theorem w1_soundTogether {G : Gx} {mm mm1 : Nat → Nat → Int32} {lm : Nat → Int64} {x1 : Int32} {x2 : Int32} (hct : Ct G M_X9_soundTogether [.ref 0, .int x1, .int x2] (SH, mm, lm) false (.inr "java/lang/IllegalStateException") (SH, mm1, lm) false 1 6) :
    Ct G M_L_soundTogether [.ref 0, .int x1, .int x2, .ref 85] (SH, mm, lm) false (.inl (some (.int 1))) (SH, mm1, lm) false 1 6 := by
  refine ct_of_JH (by decide +kernel) rfl (Nat.le_of_ble_eq_true rfl) ?_
  refine J_aload_n rfl (i := 3) rfl dL_soundTogether_0 ?_
  refine J_iconst (v := 0) (by decide) dL_soundTogether_1 ?_
  refine J_aload_n rfl (i := 0) rfl dL_soundTogether_2 ?_
  refine J_iload_n rfl (i := 1) rfl dL_soundTogether_3 ?_
  refine J_iload_n rfl (i := 2) rfl dL_soundTogether_4 ?_
  refine J_callVc (as := [.int x1, .int x2]) (k := 0) (st := [.int 0, .ref 85]) cal_X9_soundTogether cai_X9_soundTogether gw_1320 ⟨by decide, by decide⟩ cnt_X9_soundTogether sh_0 rfl rfl (Nat.le_of_ble_eq_true rfl) dL_soundTogether_5 ([] : List ExceptionTableEntry) ⟨0, 10, 13, 13⟩ [⟨0, 10, 17, 19⟩] rfl (fun y hy => by cases hy) (by decide) (by decide) gw_623 (List.mem_of_getElem? (i := 0) rfl) (a1 := 1) (b1 := 6) (a2 := 0) (b2 := 0) hct rfl rfl ?_
  refine Jq_astore (i := 4) (by decide) dL_soundTogether_13 ?_
  refine J_iconst (v := 1) (by decide) dL_soundTogether_15 ?_
  exact J_fini (ty := .int) rfl rfl dL_soundTogether_16 ⟨rfl, rfl⟩
theorem w2_soundTogether {G : Gx} {mm mm1 : Nat → Nat → Int32} {lm : Nat → Int64} {x1 : Int32} {x2 : Int32} (hct : Ct G M_X9_soundTogether [.ref 0, .int x1, .int x2] (SH, mm, lm) false (.inr "java/lang/IllegalArgumentException") (SH, mm1, lm) false 1 6) :
    Ct G M_L_soundTogether [.ref 0, .int x1, .int x2, .ref 85] (SH, mm, lm) false (.inl (some (.int 2))) (SH, mm1, lm) false 1 6 := by
  refine ct_of_JH (by decide +kernel) rfl (Nat.le_of_ble_eq_true rfl) ?_
  refine J_aload_n rfl (i := 3) rfl dL_soundTogether_0 ?_
  refine J_iconst (v := 0) (by decide) dL_soundTogether_1 ?_
  refine J_aload_n rfl (i := 0) rfl dL_soundTogether_2 ?_
  refine J_iload_n rfl (i := 1) rfl dL_soundTogether_3 ?_
  refine J_iload_n rfl (i := 2) rfl dL_soundTogether_4 ?_
  refine J_callVc (as := [.int x1, .int x2]) (k := 0) (st := [.int 0, .ref 85]) cal_X9_soundTogether cai_X9_soundTogether gw_1320 ⟨by decide, by decide⟩ cnt_X9_soundTogether sh_0 rfl rfl (Nat.le_of_ble_eq_true rfl) dL_soundTogether_5 ([⟨0, 10, 13, 13⟩] : List ExceptionTableEntry) ⟨0, 10, 17, 19⟩ [] rfl (fun y hy => by
      rcases List.mem_cons.mp hy with rfl | hy
      · exact ⟨by decide, "java/lang/IllegalStateException", gw_623, List.mem_of_getElem? (i := 0) rfl⟩
      · cases hy) (by decide) (by decide) gw_702 (List.mem_of_getElem? (i := 1) rfl) (a1 := 1) (b1 := 6) (a2 := 0) (b2 := 0) hct rfl rfl ?_
  refine Jq_astore (i := 4) (by decide) dL_soundTogether_17 ?_
  refine J_iconst (v := 2) (by decide) dL_soundTogether_19 ?_
  exact J_fini (ty := .int) rfl rfl dL_soundTogether_20 ⟨rfl, rfl⟩
theorem w_leastDelay {G : Gx} {mm mm1 : Nat → Nat → Int32} {lm : Nat → Int64} {x1 : Int32} {v : Int32} (hct : Ct G M_X9_leastDelay [.ref 0, .int x1] (SH, mm, lm) false (.inl (some (.int v))) (SH, mm1, lm) false 1 6) :
    Ct G M_L_leastDelay [.ref 0, .int x1, .ref 85] (SH, mm, lm) false (.inl (some (.int 0))) (SH, mm1, vp_updL lm 0 v.toInt64) false 1 6 := by
  refine ct_of_JH (by decide +kernel) rfl (Nat.le_of_ble_eq_true rfl) ?_
  refine J_aload_n rfl (i := 2) rfl dL_leastDelay_0 ?_
  refine J_iconst (v := 0) (by decide) dL_leastDelay_1 ?_
  refine J_aload_n rfl (i := 0) rfl dL_leastDelay_2 ?_
  refine J_iload_n rfl (i := 1) rfl dL_leastDelay_3 ?_
  refine J_callV (as := [.int x1]) (k := 0) (st := [.int 0, .ref 85]) cal_X9_leastDelay cai_X9_leastDelay gw_1327 ⟨by decide, by decide⟩ cnt_X9_leastDelay sh_0 rfl rfl (Nat.le_of_ble_eq_true rfl) dL_leastDelay_4 (a1 := 1) (b1 := 6) (a2 := 0) (b2 := 0) rfl rfl hct ?_
  refine J_i2l dL_leastDelay_7 ?_
  refine J_last sh_85 sh_out (by unfold vp_in; decide) dL_leastDelay_8 ?_
  refine J_goto (tgt := 18) dL_leastDelay_9 (by decide) ?_
  refine J_iconst (v := 0) (by decide) dL_leastDelay_18 ?_
  exact J_fini (ty := .int) rfl rfl dL_leastDelay_19 ⟨rfl, rfl⟩
theorem w1_leastDelay {G : Gx} {mm mm1 : Nat → Nat → Int32} {lm : Nat → Int64} {x1 : Int32} (hct : Ct G M_X9_leastDelay [.ref 0, .int x1] (SH, mm, lm) false (.inr "java/lang/IllegalStateException") (SH, mm1, lm) false 1 6) :
    Ct G M_L_leastDelay [.ref 0, .int x1, .ref 85] (SH, mm, lm) false (.inl (some (.int 1))) (SH, mm1, lm) false 1 6 := by
  refine ct_of_JH (by decide +kernel) rfl (Nat.le_of_ble_eq_true rfl) ?_
  refine J_aload_n rfl (i := 2) rfl dL_leastDelay_0 ?_
  refine J_iconst (v := 0) (by decide) dL_leastDelay_1 ?_
  refine J_aload_n rfl (i := 0) rfl dL_leastDelay_2 ?_
  refine J_iload_n rfl (i := 1) rfl dL_leastDelay_3 ?_
  refine J_callVc (as := [.int x1]) (k := 0) (st := [.int 0, .ref 85]) cal_X9_leastDelay cai_X9_leastDelay gw_1327 ⟨by decide, by decide⟩ cnt_X9_leastDelay sh_0 rfl rfl (Nat.le_of_ble_eq_true rfl) dL_leastDelay_4 ([] : List ExceptionTableEntry) ⟨0, 9, 12, 13⟩ [⟨0, 9, 15, 19⟩] rfl (fun y hy => by cases hy) (by decide) (by decide) gw_623 (List.mem_of_getElem? (i := 0) rfl) (a1 := 1) (b1 := 6) (a2 := 0) (b2 := 0) hct rfl rfl ?_
  refine Jq_astore_n rfl (i := 3) (by decide) dL_leastDelay_12 ?_
  refine J_iconst (v := 1) (by decide) dL_leastDelay_13 ?_
  exact J_fini (ty := .int) rfl rfl dL_leastDelay_14 ⟨rfl, rfl⟩
theorem w2_leastDelay {G : Gx} {mm mm1 : Nat → Nat → Int32} {lm : Nat → Int64} {x1 : Int32} (hct : Ct G M_X9_leastDelay [.ref 0, .int x1] (SH, mm, lm) false (.inr "java/lang/IllegalArgumentException") (SH, mm1, lm) false 1 6) :
    Ct G M_L_leastDelay [.ref 0, .int x1, .ref 85] (SH, mm, lm) false (.inl (some (.int 2))) (SH, mm1, lm) false 1 6 := by
  refine ct_of_JH (by decide +kernel) rfl (Nat.le_of_ble_eq_true rfl) ?_
  refine J_aload_n rfl (i := 2) rfl dL_leastDelay_0 ?_
  refine J_iconst (v := 0) (by decide) dL_leastDelay_1 ?_
  refine J_aload_n rfl (i := 0) rfl dL_leastDelay_2 ?_
  refine J_iload_n rfl (i := 1) rfl dL_leastDelay_3 ?_
  refine J_callVc (as := [.int x1]) (k := 0) (st := [.int 0, .ref 85]) cal_X9_leastDelay cai_X9_leastDelay gw_1327 ⟨by decide, by decide⟩ cnt_X9_leastDelay sh_0 rfl rfl (Nat.le_of_ble_eq_true rfl) dL_leastDelay_4 ([⟨0, 9, 12, 13⟩] : List ExceptionTableEntry) ⟨0, 9, 15, 19⟩ [] rfl (fun y hy => by
      rcases List.mem_cons.mp hy with rfl | hy
      · exact ⟨by decide, "java/lang/IllegalStateException", gw_623, List.mem_of_getElem? (i := 0) rfl⟩
      · cases hy) (by decide) (by decide) gw_702 (List.mem_of_getElem? (i := 1) rfl) (a1 := 1) (b1 := 6) (a2 := 0) (b2 := 0) hct rfl rfl ?_
  refine Jq_astore_n rfl (i := 3) (by decide) dL_leastDelay_15 ?_
  refine J_iconst (v := 2) (by decide) dL_leastDelay_16 ?_
  exact J_fini (ty := .int) rfl rfl dL_leastDelay_17 ⟨rfl, rfl⟩
theorem w_ropeLength {G : Gx} {mm mm1 : Nat → Nat → Int32} {lm : Nat → Int64} {x1 : Int32} {v : Int32} (hct : Ct G M_X9_ropeLength [.ref 0, .int x1] (SH, mm, lm) false (.inl (some (.int v))) (SH, mm1, lm) false 1 6) :
    Ct G M_L_ropeLength [.ref 0, .int x1, .ref 85] (SH, mm, lm) false (.inl (some (.int 0))) (SH, mm1, vp_updL lm 0 v.toInt64) false 1 6 := by
  refine ct_of_JH (by decide +kernel) rfl (Nat.le_of_ble_eq_true rfl) ?_
  refine J_aload_n rfl (i := 2) rfl dL_ropeLength_0 ?_
  refine J_iconst (v := 0) (by decide) dL_ropeLength_1 ?_
  refine J_aload_n rfl (i := 0) rfl dL_ropeLength_2 ?_
  refine J_iload_n rfl (i := 1) rfl dL_ropeLength_3 ?_
  refine J_callV (as := [.int x1]) (k := 0) (st := [.int 0, .ref 85]) cal_X9_ropeLength cai_X9_ropeLength gw_1342 ⟨by decide, by decide⟩ cnt_X9_ropeLength sh_0 rfl rfl (Nat.le_of_ble_eq_true rfl) dL_ropeLength_4 (a1 := 1) (b1 := 6) (a2 := 0) (b2 := 0) rfl rfl hct ?_
  refine J_i2l dL_ropeLength_7 ?_
  refine J_last sh_85 sh_out (by unfold vp_in; decide) dL_ropeLength_8 ?_
  refine J_goto (tgt := 18) dL_ropeLength_9 (by decide) ?_
  refine J_iconst (v := 0) (by decide) dL_ropeLength_18 ?_
  exact J_fini (ty := .int) rfl rfl dL_ropeLength_19 ⟨rfl, rfl⟩
theorem w1_ropeLength {G : Gx} {mm mm1 : Nat → Nat → Int32} {lm : Nat → Int64} {x1 : Int32} (hct : Ct G M_X9_ropeLength [.ref 0, .int x1] (SH, mm, lm) false (.inr "java/lang/IllegalStateException") (SH, mm1, lm) false 1 6) :
    Ct G M_L_ropeLength [.ref 0, .int x1, .ref 85] (SH, mm, lm) false (.inl (some (.int 1))) (SH, mm1, lm) false 1 6 := by
  refine ct_of_JH (by decide +kernel) rfl (Nat.le_of_ble_eq_true rfl) ?_
  refine J_aload_n rfl (i := 2) rfl dL_ropeLength_0 ?_
  refine J_iconst (v := 0) (by decide) dL_ropeLength_1 ?_
  refine J_aload_n rfl (i := 0) rfl dL_ropeLength_2 ?_
  refine J_iload_n rfl (i := 1) rfl dL_ropeLength_3 ?_
  refine J_callVc (as := [.int x1]) (k := 0) (st := [.int 0, .ref 85]) cal_X9_ropeLength cai_X9_ropeLength gw_1342 ⟨by decide, by decide⟩ cnt_X9_ropeLength sh_0 rfl rfl (Nat.le_of_ble_eq_true rfl) dL_ropeLength_4 ([] : List ExceptionTableEntry) ⟨0, 9, 12, 13⟩ [⟨0, 9, 15, 19⟩] rfl (fun y hy => by cases hy) (by decide) (by decide) gw_623 (List.mem_of_getElem? (i := 0) rfl) (a1 := 1) (b1 := 6) (a2 := 0) (b2 := 0) hct rfl rfl ?_
  refine Jq_astore_n rfl (i := 3) (by decide) dL_ropeLength_12 ?_
  refine J_iconst (v := 1) (by decide) dL_ropeLength_13 ?_
  exact J_fini (ty := .int) rfl rfl dL_ropeLength_14 ⟨rfl, rfl⟩
theorem w2_ropeLength {G : Gx} {mm mm1 : Nat → Nat → Int32} {lm : Nat → Int64} {x1 : Int32} (hct : Ct G M_X9_ropeLength [.ref 0, .int x1] (SH, mm, lm) false (.inr "java/lang/IllegalArgumentException") (SH, mm1, lm) false 1 6) :
    Ct G M_L_ropeLength [.ref 0, .int x1, .ref 85] (SH, mm, lm) false (.inl (some (.int 2))) (SH, mm1, lm) false 1 6 := by
  refine ct_of_JH (by decide +kernel) rfl (Nat.le_of_ble_eq_true rfl) ?_
  refine J_aload_n rfl (i := 2) rfl dL_ropeLength_0 ?_
  refine J_iconst (v := 0) (by decide) dL_ropeLength_1 ?_
  refine J_aload_n rfl (i := 0) rfl dL_ropeLength_2 ?_
  refine J_iload_n rfl (i := 1) rfl dL_ropeLength_3 ?_
  refine J_callVc (as := [.int x1]) (k := 0) (st := [.int 0, .ref 85]) cal_X9_ropeLength cai_X9_ropeLength gw_1342 ⟨by decide, by decide⟩ cnt_X9_ropeLength sh_0 rfl rfl (Nat.le_of_ble_eq_true rfl) dL_ropeLength_4 ([⟨0, 9, 12, 13⟩] : List ExceptionTableEntry) ⟨0, 9, 15, 19⟩ [] rfl (fun y hy => by
      rcases List.mem_cons.mp hy with rfl | hy
      · exact ⟨by decide, "java/lang/IllegalStateException", gw_623, List.mem_of_getElem? (i := 0) rfl⟩
      · cases hy) (by decide) (by decide) gw_702 (List.mem_of_getElem? (i := 1) rfl) (a1 := 1) (b1 := 6) (a2 := 0) (b2 := 0) hct rfl rfl ?_
  refine Jq_astore_n rfl (i := 3) (by decide) dL_ropeLength_15 ?_
  refine J_iconst (v := 2) (by decide) dL_ropeLength_16 ?_
  exact J_fini (ty := .int) rfl rfl dL_ropeLength_17 ⟨rfl, rfl⟩
theorem w_fewestPieces {G : Gx} {mm mm1 : Nat → Nat → Int32} {lm : Nat → Int64}  {v : Int32} (hct : Ct G M_X9_fewestPieces [.ref 0] (SH, mm, lm) false (.inl (some (.int v))) (SH, mm1, lm) false 1 6) :
    Ct G M_L_fewestPieces [.ref 0, .ref 85] (SH, mm, lm) false (.inl (some (.int 0))) (SH, mm1, vp_updL lm 0 v.toInt64) false 1 6 := by
  refine ct_of_JH (by decide +kernel) rfl (Nat.le_of_ble_eq_true rfl) ?_
  refine J_aload_n rfl (i := 1) rfl dL_fewestPieces_0 ?_
  refine J_iconst (v := 0) (by decide) dL_fewestPieces_1 ?_
  refine J_aload_n rfl (i := 0) rfl dL_fewestPieces_2 ?_
  refine J_callV (as := []) (k := 0) (st := [.int 0, .ref 85]) cal_X9_fewestPieces cai_X9_fewestPieces gw_1354 ⟨by decide, by decide⟩ cnt_X9_fewestPieces sh_0 rfl rfl (Nat.le_of_ble_eq_true rfl) dL_fewestPieces_3 (a1 := 1) (b1 := 6) (a2 := 0) (b2 := 0) rfl rfl hct ?_
  refine J_i2l dL_fewestPieces_6 ?_
  refine J_last sh_85 sh_out (by unfold vp_in; decide) dL_fewestPieces_7 ?_
  refine J_goto (tgt := 14) dL_fewestPieces_8 (by decide) ?_
  refine J_iconst (v := 0) (by decide) dL_fewestPieces_14 ?_
  exact J_fini (ty := .int) rfl rfl dL_fewestPieces_15 ⟨rfl, rfl⟩
theorem w1_fewestPieces {G : Gx} {mm mm1 : Nat → Nat → Int32} {lm : Nat → Int64}  (hct : Ct G M_X9_fewestPieces [.ref 0] (SH, mm, lm) false (.inr "java/lang/IllegalStateException") (SH, mm1, lm) false 1 6) :
    Ct G M_L_fewestPieces [.ref 0, .ref 85] (SH, mm, lm) false (.inl (some (.int 1))) (SH, mm1, lm) false 1 6 := by
  refine ct_of_JH (by decide +kernel) rfl (Nat.le_of_ble_eq_true rfl) ?_
  refine J_aload_n rfl (i := 1) rfl dL_fewestPieces_0 ?_
  refine J_iconst (v := 0) (by decide) dL_fewestPieces_1 ?_
  refine J_aload_n rfl (i := 0) rfl dL_fewestPieces_2 ?_
  refine J_callVc (as := []) (k := 0) (st := [.int 0, .ref 85]) cal_X9_fewestPieces cai_X9_fewestPieces gw_1354 ⟨by decide, by decide⟩ cnt_X9_fewestPieces sh_0 rfl rfl (Nat.le_of_ble_eq_true rfl) dL_fewestPieces_3 ([] : List ExceptionTableEntry) ⟨0, 8, 11, 13⟩ [] rfl (fun y hy => by cases hy) (by decide) (by decide) gw_623 (List.mem_of_getElem? (i := 0) rfl) (a1 := 1) (b1 := 6) (a2 := 0) (b2 := 0) hct rfl rfl ?_
  refine Jq_astore_n rfl (i := 2) (by decide) dL_fewestPieces_11 ?_
  refine J_iconst (v := 1) (by decide) dL_fewestPieces_12 ?_
  exact J_fini (ty := .int) rfl rfl dL_fewestPieces_13 ⟨rfl, rfl⟩
theorem w_pieceOf {G : Gx} {mm mm1 : Nat → Nat → Int32} {lm : Nat → Int64} {x1 : Int32} {v : Int32} (hct : Ct G M_X9_pieceOf [.ref 0, .int x1] (SH, mm, lm) false (.inl (some (.int v))) (SH, mm1, lm) false 1 6) :
    Ct G M_L_pieceOf [.ref 0, .int x1, .ref 85] (SH, mm, lm) false (.inl (some (.int 0))) (SH, mm1, vp_updL lm 0 v.toInt64) false 1 6 := by
  refine ct_of_JH (by decide +kernel) rfl (Nat.le_of_ble_eq_true rfl) ?_
  refine J_aload_n rfl (i := 2) rfl dL_pieceOf_0 ?_
  refine J_iconst (v := 0) (by decide) dL_pieceOf_1 ?_
  refine J_aload_n rfl (i := 0) rfl dL_pieceOf_2 ?_
  refine J_iload_n rfl (i := 1) rfl dL_pieceOf_3 ?_
  refine J_callV (as := [.int x1]) (k := 0) (st := [.int 0, .ref 85]) cal_X9_pieceOf cai_X9_pieceOf gw_1385 ⟨by decide, by decide⟩ cnt_X9_pieceOf sh_0 rfl rfl (Nat.le_of_ble_eq_true rfl) dL_pieceOf_4 (a1 := 1) (b1 := 6) (a2 := 0) (b2 := 0) rfl rfl hct ?_
  refine J_i2l dL_pieceOf_7 ?_
  refine J_last sh_85 sh_out (by unfold vp_in; decide) dL_pieceOf_8 ?_
  refine J_goto (tgt := 18) dL_pieceOf_9 (by decide) ?_
  refine J_iconst (v := 0) (by decide) dL_pieceOf_18 ?_
  exact J_fini (ty := .int) rfl rfl dL_pieceOf_19 ⟨rfl, rfl⟩
theorem w1_pieceOf {G : Gx} {mm mm1 : Nat → Nat → Int32} {lm : Nat → Int64} {x1 : Int32} (hct : Ct G M_X9_pieceOf [.ref 0, .int x1] (SH, mm, lm) false (.inr "java/lang/IllegalStateException") (SH, mm1, lm) false 1 6) :
    Ct G M_L_pieceOf [.ref 0, .int x1, .ref 85] (SH, mm, lm) false (.inl (some (.int 1))) (SH, mm1, lm) false 1 6 := by
  refine ct_of_JH (by decide +kernel) rfl (Nat.le_of_ble_eq_true rfl) ?_
  refine J_aload_n rfl (i := 2) rfl dL_pieceOf_0 ?_
  refine J_iconst (v := 0) (by decide) dL_pieceOf_1 ?_
  refine J_aload_n rfl (i := 0) rfl dL_pieceOf_2 ?_
  refine J_iload_n rfl (i := 1) rfl dL_pieceOf_3 ?_
  refine J_callVc (as := [.int x1]) (k := 0) (st := [.int 0, .ref 85]) cal_X9_pieceOf cai_X9_pieceOf gw_1385 ⟨by decide, by decide⟩ cnt_X9_pieceOf sh_0 rfl rfl (Nat.le_of_ble_eq_true rfl) dL_pieceOf_4 ([] : List ExceptionTableEntry) ⟨0, 9, 12, 13⟩ [⟨0, 9, 15, 19⟩] rfl (fun y hy => by cases hy) (by decide) (by decide) gw_623 (List.mem_of_getElem? (i := 0) rfl) (a1 := 1) (b1 := 6) (a2 := 0) (b2 := 0) hct rfl rfl ?_
  refine Jq_astore_n rfl (i := 3) (by decide) dL_pieceOf_12 ?_
  refine J_iconst (v := 1) (by decide) dL_pieceOf_13 ?_
  exact J_fini (ty := .int) rfl rfl dL_pieceOf_14 ⟨rfl, rfl⟩
theorem w2_pieceOf {G : Gx} {mm mm1 : Nat → Nat → Int32} {lm : Nat → Int64} {x1 : Int32} (hct : Ct G M_X9_pieceOf [.ref 0, .int x1] (SH, mm, lm) false (.inr "java/lang/IllegalArgumentException") (SH, mm1, lm) false 1 6) :
    Ct G M_L_pieceOf [.ref 0, .int x1, .ref 85] (SH, mm, lm) false (.inl (some (.int 2))) (SH, mm1, lm) false 1 6 := by
  refine ct_of_JH (by decide +kernel) rfl (Nat.le_of_ble_eq_true rfl) ?_
  refine J_aload_n rfl (i := 2) rfl dL_pieceOf_0 ?_
  refine J_iconst (v := 0) (by decide) dL_pieceOf_1 ?_
  refine J_aload_n rfl (i := 0) rfl dL_pieceOf_2 ?_
  refine J_iload_n rfl (i := 1) rfl dL_pieceOf_3 ?_
  refine J_callVc (as := [.int x1]) (k := 0) (st := [.int 0, .ref 85]) cal_X9_pieceOf cai_X9_pieceOf gw_1385 ⟨by decide, by decide⟩ cnt_X9_pieceOf sh_0 rfl rfl (Nat.le_of_ble_eq_true rfl) dL_pieceOf_4 ([⟨0, 9, 12, 13⟩] : List ExceptionTableEntry) ⟨0, 9, 15, 19⟩ [] rfl (fun y hy => by
      rcases List.mem_cons.mp hy with rfl | hy
      · exact ⟨by decide, "java/lang/IllegalStateException", gw_623, List.mem_of_getElem? (i := 0) rfl⟩
      · cases hy) (by decide) (by decide) gw_702 (List.mem_of_getElem? (i := 1) rfl) (a1 := 1) (b1 := 6) (a2 := 0) (b2 := 0) hct rfl rfl ?_
  refine Jq_astore_n rfl (i := 3) (by decide) dL_pieceOf_15 ?_
  refine J_iconst (v := 2) (by decide) dL_pieceOf_16 ?_
  exact J_fini (ty := .int) rfl rfl dL_pieceOf_17 ⟨rfl, rfl⟩
theorem w_waste {G : Gx} {mm mm1 : Nat → Nat → Int32} {lm : Nat → Int64}  {v : Int32} (hct : Ct G M_X9_waste [.ref 0] (SH, mm, lm) false (.inl (some (.int v))) (SH, mm1, lm) false 1 6) :
    Ct G M_L_waste [.ref 0, .ref 85] (SH, mm, lm) false (.inl (some (.int 0))) (SH, mm1, vp_updL lm 0 v.toInt64) false 1 6 := by
  refine ct_of_JH (by decide +kernel) rfl (Nat.le_of_ble_eq_true rfl) ?_
  refine J_aload_n rfl (i := 1) rfl dL_waste_0 ?_
  refine J_iconst (v := 0) (by decide) dL_waste_1 ?_
  refine J_aload_n rfl (i := 0) rfl dL_waste_2 ?_
  refine J_callV (as := []) (k := 0) (st := [.int 0, .ref 85]) cal_X9_waste cai_X9_waste gw_1396 ⟨by decide, by decide⟩ cnt_X9_waste sh_0 rfl rfl (Nat.le_of_ble_eq_true rfl) dL_waste_3 (a1 := 1) (b1 := 6) (a2 := 0) (b2 := 0) rfl rfl hct ?_
  refine J_i2l dL_waste_6 ?_
  refine J_last sh_85 sh_out (by unfold vp_in; decide) dL_waste_7 ?_
  refine J_goto (tgt := 14) dL_waste_8 (by decide) ?_
  refine J_iconst (v := 0) (by decide) dL_waste_14 ?_
  exact J_fini (ty := .int) rfl rfl dL_waste_15 ⟨rfl, rfl⟩
theorem w1_waste {G : Gx} {mm mm1 : Nat → Nat → Int32} {lm : Nat → Int64}  (hct : Ct G M_X9_waste [.ref 0] (SH, mm, lm) false (.inr "java/lang/IllegalStateException") (SH, mm1, lm) false 1 6) :
    Ct G M_L_waste [.ref 0, .ref 85] (SH, mm, lm) false (.inl (some (.int 1))) (SH, mm1, lm) false 1 6 := by
  refine ct_of_JH (by decide +kernel) rfl (Nat.le_of_ble_eq_true rfl) ?_
  refine J_aload_n rfl (i := 1) rfl dL_waste_0 ?_
  refine J_iconst (v := 0) (by decide) dL_waste_1 ?_
  refine J_aload_n rfl (i := 0) rfl dL_waste_2 ?_
  refine J_callVc (as := []) (k := 0) (st := [.int 0, .ref 85]) cal_X9_waste cai_X9_waste gw_1396 ⟨by decide, by decide⟩ cnt_X9_waste sh_0 rfl rfl (Nat.le_of_ble_eq_true rfl) dL_waste_3 ([] : List ExceptionTableEntry) ⟨0, 8, 11, 13⟩ [] rfl (fun y hy => by cases hy) (by decide) (by decide) gw_623 (List.mem_of_getElem? (i := 0) rfl) (a1 := 1) (b1 := 6) (a2 := 0) (b2 := 0) hct rfl rfl ?_
  refine Jq_astore_n rfl (i := 2) (by decide) dL_waste_11 ?_
  refine J_iconst (v := 1) (by decide) dL_waste_12 ?_
  exact J_fini (ty := .int) rfl rfl dL_waste_13 ⟨rfl, rfl⟩
theorem w_extraPiece {G : Gx} {mm mm1 : Nat → Nat → Int32} {lm : Nat → Int64}  {v : Int32} (hct : Ct G M_X9_extraPiece [.ref 0] (SH, mm, lm) false (.inl (some (.int v))) (SH, mm1, lm) false 1 6) :
    Ct G M_L_extraPiece [.ref 0, .ref 85] (SH, mm, lm) false (.inl (some (.int 0))) (SH, mm1, vp_updL lm 0 v.toInt64) false 1 6 := by
  refine ct_of_JH (by decide +kernel) rfl (Nat.le_of_ble_eq_true rfl) ?_
  refine J_aload_n rfl (i := 1) rfl dL_extraPiece_0 ?_
  refine J_iconst (v := 0) (by decide) dL_extraPiece_1 ?_
  refine J_aload_n rfl (i := 0) rfl dL_extraPiece_2 ?_
  refine J_callV (as := []) (k := 0) (st := [.int 0, .ref 85]) cal_X9_extraPiece cai_X9_extraPiece gw_1408 ⟨by decide, by decide⟩ cnt_X9_extraPiece sh_0 rfl rfl (Nat.le_of_ble_eq_true rfl) dL_extraPiece_3 (a1 := 1) (b1 := 6) (a2 := 0) (b2 := 0) rfl rfl hct ?_
  refine J_i2l dL_extraPiece_6 ?_
  refine J_last sh_85 sh_out (by unfold vp_in; decide) dL_extraPiece_7 ?_
  refine J_goto (tgt := 14) dL_extraPiece_8 (by decide) ?_
  refine J_iconst (v := 0) (by decide) dL_extraPiece_14 ?_
  exact J_fini (ty := .int) rfl rfl dL_extraPiece_15 ⟨rfl, rfl⟩
theorem w1_extraPiece {G : Gx} {mm mm1 : Nat → Nat → Int32} {lm : Nat → Int64}  (hct : Ct G M_X9_extraPiece [.ref 0] (SH, mm, lm) false (.inr "java/lang/IllegalStateException") (SH, mm1, lm) false 1 6) :
    Ct G M_L_extraPiece [.ref 0, .ref 85] (SH, mm, lm) false (.inl (some (.int 1))) (SH, mm1, lm) false 1 6 := by
  refine ct_of_JH (by decide +kernel) rfl (Nat.le_of_ble_eq_true rfl) ?_
  refine J_aload_n rfl (i := 1) rfl dL_extraPiece_0 ?_
  refine J_iconst (v := 0) (by decide) dL_extraPiece_1 ?_
  refine J_aload_n rfl (i := 0) rfl dL_extraPiece_2 ?_
  refine J_callVc (as := []) (k := 0) (st := [.int 0, .ref 85]) cal_X9_extraPiece cai_X9_extraPiece gw_1408 ⟨by decide, by decide⟩ cnt_X9_extraPiece sh_0 rfl rfl (Nat.le_of_ble_eq_true rfl) dL_extraPiece_3 ([] : List ExceptionTableEntry) ⟨0, 8, 11, 13⟩ [] rfl (fun y hy => by cases hy) (by decide) (by decide) gw_623 (List.mem_of_getElem? (i := 0) rfl) (a1 := 1) (b1 := 6) (a2 := 0) (b2 := 0) hct rfl rfl ?_
  refine Jq_astore_n rfl (i := 2) (by decide) dL_extraPiece_11 ?_
  refine J_iconst (v := 1) (by decide) dL_extraPiece_12 ?_
  exact J_fini (ty := .int) rfl rfl dL_extraPiece_13 ⟨rfl, rfl⟩
theorem w_undo {G : Gx} {mm mm1 : Nat → Nat → Int32} {lm : Nat → Int64}  {v : Int32} (hct : Ct G M_X9_undo [.ref 0] (SH, mm, lm) false (.inl (some (.int v))) (SH, mm1, lm) false 1 6) :
    Ct G M_L_undo [.ref 0, .ref 85] (SH, mm, lm) false (.inl (some (.int 0))) (SH, mm1, vp_updL lm 0 v.toInt64) false 1 6 := by
  refine ct_of_JH (by decide +kernel) rfl (Nat.le_of_ble_eq_true rfl) ?_
  refine J_aload_n rfl (i := 1) rfl dL_undo_0 ?_
  refine J_iconst (v := 0) (by decide) dL_undo_1 ?_
  refine J_aload_n rfl (i := 0) rfl dL_undo_2 ?_
  refine J_callV (as := []) (k := 0) (st := [.int 0, .ref 85]) cal_X9_undo cai_X9_undo gw_1419 ⟨by decide, by decide⟩ cnt_X9_undo sh_0 rfl rfl (Nat.le_of_ble_eq_true rfl) dL_undo_3 (a1 := 1) (b1 := 6) (a2 := 0) (b2 := 0) rfl rfl hct ?_
  refine J_i2l dL_undo_6 ?_
  refine J_last sh_85 sh_out (by unfold vp_in; decide) dL_undo_7 ?_
  refine J_goto (tgt := 14) dL_undo_8 (by decide) ?_
  refine J_iconst (v := 0) (by decide) dL_undo_14 ?_
  exact J_fini (ty := .int) rfl rfl dL_undo_15 ⟨rfl, rfl⟩
theorem w1_undo {G : Gx} {mm mm1 : Nat → Nat → Int32} {lm : Nat → Int64}  (hct : Ct G M_X9_undo [.ref 0] (SH, mm, lm) false (.inr "java/lang/IllegalStateException") (SH, mm1, lm) false 1 6) :
    Ct G M_L_undo [.ref 0, .ref 85] (SH, mm, lm) false (.inl (some (.int 1))) (SH, mm1, lm) false 1 6 := by
  refine ct_of_JH (by decide +kernel) rfl (Nat.le_of_ble_eq_true rfl) ?_
  refine J_aload_n rfl (i := 1) rfl dL_undo_0 ?_
  refine J_iconst (v := 0) (by decide) dL_undo_1 ?_
  refine J_aload_n rfl (i := 0) rfl dL_undo_2 ?_
  refine J_callVc (as := []) (k := 0) (st := [.int 0, .ref 85]) cal_X9_undo cai_X9_undo gw_1419 ⟨by decide, by decide⟩ cnt_X9_undo sh_0 rfl rfl (Nat.le_of_ble_eq_true rfl) dL_undo_3 ([] : List ExceptionTableEntry) ⟨0, 8, 11, 13⟩ [] rfl (fun y hy => by cases hy) (by decide) (by decide) gw_623 (List.mem_of_getElem? (i := 0) rfl) (a1 := 1) (b1 := 6) (a2 := 0) (b2 := 0) hct rfl rfl ?_
  refine Jq_astore_n rfl (i := 2) (by decide) dL_undo_11 ?_
  refine J_iconst (v := 1) (by decide) dL_undo_12 ?_
  exact J_fini (ty := .int) rfl rfl dL_undo_13 ⟨rfl, rfl⟩
