theorem gw_132 : Cond.classLink "BellTowerPlannerLaw" 8 "BellTowerPlanner" ∈ gt := gt_in (List.mem_of_getElem? (i := 132) (by decide +kernel)) (by decide +kernel)
theorem gw_133 : Cond.instantiable "BellTowerPlanner" 11 ∈ gt := gt_in (List.mem_of_getElem? (i := 133) (by decide +kernel)) (by decide +kernel)
theorem gw_134 : Cond.methodLink "BellTowerPlannerLaw" 159 ⟨"BellTowerPlanner", "<init>", "()V"⟩ ∈ gt := gt_in (List.mem_of_getElem? (i := 134) (by decide +kernel)) (by decide +kernel)
theorem gw_1427 : Cond.classLink "BellTowerPlannerLaw" 160 "BellTowerPlannerModel" ∈ gt := gt_in (List.mem_of_getElem? (i := 1427) (by decide +kernel)) (by decide +kernel)
theorem gw_1428 : Cond.instantiable "BellTowerPlannerModel" 41 ∈ gt := gt_in (List.mem_of_getElem? (i := 1428) (by decide +kernel)) (by decide +kernel)
theorem gw_1429 : Cond.methodLink "BellTowerPlannerLaw" 162 ⟨"BellTowerPlannerModel", "<init>", "()V"⟩ ∈ gt := gt_in (List.mem_of_getElem? (i := 1429) (by decide +kernel)) (by decide +kernel)
theorem gw_2053 : Cond.arrayClass .long ∈ gt := gt_in (List.mem_of_getElem? (i := 2053) (by decide +kernel)) (by decide +kernel)
theorem dL_law_0 : decode cL_law 0 = .ok (.new 8, 3) := by decide +kernel
theorem dL_law_3 : decode cL_law 3 = .ok (.dup, 1) := by decide +kernel
theorem dL_law_4 : decode cL_law 4 = .ok (.invokespecial 159, 3) := by decide +kernel
theorem dL_law_7 : decode cL_law 7 = .ok (.astore_n 1, 1) := by decide +kernel
theorem dL_law_8 : decode cL_law 8 = .ok (.new 160, 3) := by decide +kernel
theorem dL_law_11 : decode cL_law 11 = .ok (.dup, 1) := by decide +kernel
theorem dL_law_12 : decode cL_law 12 = .ok (.invokespecial 162, 3) := by decide +kernel
theorem dL_law_15 : decode cL_law 15 = .ok (.astore_n 2, 1) := by decide +kernel
theorem dL_law_16 : decode cL_law 16 = .ok (.iconst 1, 1) := by decide +kernel
theorem dL_law_17 : decode cL_law 17 = .ok (.newarray .long, 2) := by decide +kernel
theorem dL_law_19 : decode cL_law 19 = .ok (.astore_n 3, 1) := by decide +kernel
theorem dL_law_20 : decode cL_law 20 = .ok (.iconst 0, 1) := by decide +kernel
theorem dL_law_21 : decode cL_law 21 = .ok (.istore 4, 2) := by decide +kernel
theorem dL_law_23 : decode cL_law 23 = .ok (.iload 4, 2) := by decide +kernel
theorem dL_law_25 : decode cL_law 25 = .ok (.aload_n 0, 1) := by decide +kernel
theorem dL_law_26 : decode cL_law 26 = .ok (.arraylength, 1) := by decide +kernel
theorem dL_law_27 : decode cL_law 27 = .ok (.bipush 6, 2) := by decide +kernel
theorem dL_law_29 : decode cL_law 29 = .ok (.isub, 1) := by decide +kernel
theorem dL_law_30 : decode cL_law 30 = .ok (.if_icmp .gt 2977, 3) := by decide +kernel
theorem dL_law_3007 : decode cL_law 3007 = .ok (.iconst 1, 1) := by decide +kernel
theorem dL_law_3008 : decode cL_law 3008 = .ok (.ireturn, 1) := by decide +kernel
theorem dL_law_33 : decode cL_law 33 = .ok (.aload_n 0, 1) := by decide +kernel
theorem dL_law_34 : decode cL_law 34 = .ok (.iload 4, 2) := by decide +kernel
theorem dL_law_36 : decode cL_law 36 = .ok (.iaload, 1) := by decide +kernel
theorem dL_law_37 : decode cL_law 37 = .ok (.bipush 63, 2) := by decide +kernel
theorem dL_law_39 : decode cL_law 39 = .ok (.iand, 1) := by decide +kernel
/-! ===== what stands at the law's start (wip/gen/mk28.py) ===== -/
def NFl : List Cond := flatC (Jvm.Cond.and given_1 narrow_1)
theorem na_1001 : Cond.arrayOf (.static "BellTowerPlanner$Plans" "POWER" "[I") .int ∈ NFl := List.mem_of_getElem? (i := 42) (by decide +kernel)
theorem nl_1001 : Cond.eq (.length (.static "BellTowerPlanner$Plans" "POWER" "[I")) (.int (Int32.ofNat 9)) ∈ NFl := List.mem_of_getElem? (i := 43) (by decide +kernel)
theorem ne_1001 : ∀ j, j < 9 → NFl[44 + j]? = some (Cond.eq (.elem (.static "BellTowerPlanner$Plans" "POWER" "[I") (.int (Int32.ofNat j))) (.int (([1, 3, 9, 27, 81, 243, 729, 2187, 6561] : List Int32).getD j 0))) := by decide +kernel
theorem na_1002 : Cond.arrayOf (.static "BellTowerPlanner$TowerText" "FIRST_RANGE" "[I") .int ∈ NFl := List.mem_of_getElem? (i := 10) (by decide +kernel)
theorem nl_1002 : Cond.eq (.length (.static "BellTowerPlanner$TowerText" "FIRST_RANGE" "[I")) (.int (Int32.ofNat 5)) ∈ NFl := List.mem_of_getElem? (i := 11) (by decide +kernel)
theorem ne_1002 : ∀ j, j < 5 → NFl[12 + j]? = some (Cond.eq (.elem (.static "BellTowerPlanner$TowerText" "FIRST_RANGE" "[I") (.int (Int32.ofNat j))) (.int (([0, 2, 5, 7, 8] : List Int32).getD j 0))) := by decide +kernel
theorem na_1003 : Cond.arrayOf (.static "BellTowerPlanner$TowerText" "LEAST" "[I") .int ∈ NFl := List.mem_of_getElem? (i := 18) (by decide +kernel)
theorem nl_1003 : Cond.eq (.length (.static "BellTowerPlanner$TowerText" "LEAST" "[I")) (.int (Int32.ofNat 8)) ∈ NFl := List.mem_of_getElem? (i := 19) (by decide +kernel)
theorem ne_1003 : ∀ j, j < 8 → NFl[20 + j]? = some (Cond.eq (.elem (.static "BellTowerPlanner$TowerText" "LEAST" "[I") (.int (Int32.ofNat j))) (.int (([300, 0, 10, 2, 4, 0, 1, 100] : List Int32).getD j 0))) := by decide +kernel
theorem na_1004 : Cond.arrayOf (.static "BellTowerPlanner$TowerText" "GREATEST" "[I") .int ∈ NFl := List.mem_of_getElem? (i := 29) (by decide +kernel)
theorem nl_1004 : Cond.eq (.length (.static "BellTowerPlanner$TowerText" "GREATEST" "[I")) (.int (Int32.ofNat 8)) ∈ NFl := List.mem_of_getElem? (i := 30) (by decide +kernel)
theorem ne_1004 : ∀ j, j < 8 → NFl[31 + j]? = some (Cond.eq (.elem (.static "BellTowerPlanner$TowerText" "GREATEST" "[I") (.int (Int32.ofNat j))) (.int (([5000, 50000, 3000, 10, 40, 1439, 1440, 9999] : List Int32).getD j 0))) := by decide +kernel
theorem nx_1010 : Cond.exactly (.string "BellTowerPlanner$TowerText" 91) "java/lang/String" ∈ NFl := List.mem_of_getElem? (i := 92) (by decide +kernel)
theorem nc_1010 : Cond.eq (.field (.string "BellTowerPlanner$TowerText" 91) "java/lang/String" "coder" "B") (.int 0) ∈ NFl := List.mem_of_getElem? (i := 93) (by decide +kernel)
theorem na_1010 : Cond.arrayOf (.field (.string "BellTowerPlanner$TowerText" 91) "java/lang/String" "value" "[B") .byte ∈ NFl := List.mem_of_getElem? (i := 94) (by decide +kernel)
theorem nl_1010 : Cond.eq (.length (.field (.string "BellTowerPlanner$TowerText" 91) "java/lang/String" "value" "[B")) (.int (Int32.ofNat 4)) ∈ NFl := List.mem_of_getElem? (i := 95) (by decide +kernel)
theorem ne_1010 : ∀ j, j < 4 → NFl[96 + j]? = some (Cond.eq (.elem (.field (.string "BellTowerPlanner$TowerText" 91) "java/lang/String" "value" "[B") (.int (Int32.ofNat j))) (.int (([98, 101, 97, 109] : List Int32).getD j 0))) := by decide +kernel
theorem nm_1010 : Cond.eq (.string "BellTowerPlanner$TowerText" 91) (.string "BellTowerPlannerModel" 159) ∈ NFl := List.mem_of_getElem? (i := 367) (by decide +kernel)
theorem nx_1011 : Cond.exactly (.string "BellTowerPlanner$TowerText" 97) "java/lang/String" ∈ NFl := List.mem_of_getElem? (i := 100) (by decide +kernel)
theorem nc_1011 : Cond.eq (.field (.string "BellTowerPlanner$TowerText" 97) "java/lang/String" "coder" "B") (.int 0) ∈ NFl := List.mem_of_getElem? (i := 101) (by decide +kernel)
theorem na_1011 : Cond.arrayOf (.field (.string "BellTowerPlanner$TowerText" 97) "java/lang/String" "value" "[B") .byte ∈ NFl := List.mem_of_getElem? (i := 102) (by decide +kernel)
theorem nl_1011 : Cond.eq (.length (.field (.string "BellTowerPlanner$TowerText" 97) "java/lang/String" "value" "[B")) (.int (Int32.ofNat 4)) ∈ NFl := List.mem_of_getElem? (i := 103) (by decide +kernel)
theorem ne_1011 : ∀ j, j < 4 → NFl[104 + j]? = some (Cond.eq (.elem (.field (.string "BellTowerPlanner$TowerText" 97) "java/lang/String" "value" "[B") (.int (Int32.ofNat j))) (.int (([98, 101, 108, 108] : List Int32).getD j 0))) := by decide +kernel
theorem nm_1011 : Cond.eq (.string "BellTowerPlanner$TowerText" 97) (.string "BellTowerPlannerModel" 180) ∈ NFl := List.mem_of_getElem? (i := 386) (by decide +kernel)
theorem nx_1012 : Cond.exactly (.string "BellTowerPlanner$TowerText" 99) "java/lang/String" ∈ NFl := List.mem_of_getElem? (i := 109) (by decide +kernel)
theorem nc_1012 : Cond.eq (.field (.string "BellTowerPlanner$TowerText" 99) "java/lang/String" "coder" "B") (.int 0) ∈ NFl := List.mem_of_getElem? (i := 110) (by decide +kernel)
theorem na_1012 : Cond.arrayOf (.field (.string "BellTowerPlanner$TowerText" 99) "java/lang/String" "value" "[B") .byte ∈ NFl := List.mem_of_getElem? (i := 111) (by decide +kernel)
theorem nl_1012 : Cond.eq (.length (.field (.string "BellTowerPlanner$TowerText" 99) "java/lang/String" "value" "[B")) (.int (Int32.ofNat 5)) ∈ NFl := List.mem_of_getElem? (i := 112) (by decide +kernel)
theorem ne_1012 : ∀ j, j < 5 → NFl[113 + j]? = some (Cond.eq (.elem (.field (.string "BellTowerPlanner$TowerText" 99) "java/lang/String" "value" "[B") (.int (Int32.ofNat j))) (.int (([113, 117, 105, 101, 116] : List Int32).getD j 0))) := by decide +kernel
theorem nm_1012 : Cond.eq (.string "BellTowerPlanner$TowerText" 99) (.string "BellTowerPlannerModel" 185) ∈ NFl := List.mem_of_getElem? (i := 407) (by decide +kernel)
theorem nx_1013 : Cond.exactly (.string "BellTowerPlanner$TowerText" 101) "java/lang/String" ∈ NFl := List.mem_of_getElem? (i := 120) (by decide +kernel)
theorem nc_1013 : Cond.eq (.field (.string "BellTowerPlanner$TowerText" 101) "java/lang/String" "coder" "B") (.int 0) ∈ NFl := List.mem_of_getElem? (i := 121) (by decide +kernel)
theorem na_1013 : Cond.arrayOf (.field (.string "BellTowerPlanner$TowerText" 101) "java/lang/String" "value" "[B") .byte ∈ NFl := List.mem_of_getElem? (i := 122) (by decide +kernel)
theorem nl_1013 : Cond.eq (.length (.field (.string "BellTowerPlanner$TowerText" 101) "java/lang/String" "value" "[B")) (.int (Int32.ofNat 4)) ∈ NFl := List.mem_of_getElem? (i := 123) (by decide +kernel)
theorem ne_1013 : ∀ j, j < 4 → NFl[124 + j]? = some (Cond.eq (.elem (.field (.string "BellTowerPlanner$TowerText" 101) "java/lang/String" "value" "[B") (.int (Int32.ofNat j))) (.int (([114, 111, 112, 101] : List Int32).getD j 0))) := by decide +kernel
theorem nm_1013 : Cond.eq (.string "BellTowerPlanner$TowerText" 101) (.string "BellTowerPlannerModel" 190) ∈ NFl := List.mem_of_getElem? (i := 428) (by decide +kernel)
theorem nx_1014 : Cond.exactly (.string "BellTowerPlanner" 87) "java/lang/String" ∈ NFl := List.mem_of_getElem? (i := 131) (by decide +kernel)
theorem nx_1015 : Cond.exactly (.string "BellTowerPlanner" 332) "java/lang/String" ∈ NFl := List.mem_of_getElem? (i := 162) (by decide +kernel)
theorem nx_1016 : Cond.exactly (.string "BellTowerPlanner" 327) "java/lang/String" ∈ NFl := List.mem_of_getElem? (i := 202) (by decide +kernel)
theorem nx_1017 : Cond.exactly (.string "BellTowerPlanner" 334) "java/lang/String" ∈ NFl := List.mem_of_getElem? (i := 236) (by decide +kernel)
theorem nx_1018 : Cond.exactly (.string "BellTowerPlanner" 228) "java/lang/String" ∈ NFl := List.mem_of_getElem? (i := 269) (by decide +kernel)
theorem nx_1019 : Cond.exactly (.string "BellTowerPlanner" 237) "java/lang/String" ∈ NFl := List.mem_of_getElem? (i := 308) (by decide +kernel)
theorem nn_0 : Cond.not (.castable "java/lang/IllegalArgumentException" "java/lang/IllegalStateException") ∈ NFl := List.mem_of_getElem? (i := 64) (by decide +kernel)
theorem nn_1 : Cond.not (.castable "java/util/NoSuchElementException" "java/lang/IllegalStateException") ∈ NFl := List.mem_of_getElem? (i := 65) (by decide +kernel)
theorem nn_2 : Cond.not (.castable "java/util/NoSuchElementException" "java/lang/IllegalArgumentException") ∈ NFl := List.mem_of_getElem? (i := 78) (by decide +kernel)
theorem nz_0 : Cond.eq (.static "java/lang/String" "COMPACT_STRINGS" "Z") (.int 1) ∈ NFl := List.mem_of_getElem? (i := 4) (by decide +kernel)
theorem nz_1 : Cond.isRef (.static "jdk/internal/util/Preconditions" "SIOOBE_FORMATTER" "Ljava/util/function/BiFunction;") ∈ NFl := List.mem_of_getElem? (i := 5) (by decide +kernel)
theorem nz_2 : Cond.isRef (.static "java/lang/Throwable" "UNASSIGNED_STACK" "[Ljava/lang/StackTraceElement;") ∈ NFl := List.mem_of_getElem? (i := 39) (by decide +kernel)
theorem nz_3 : Cond.isRef (.static "java/lang/Throwable" "SUPPRESSED_SENTINEL" "Ljava/util/List;") ∈ NFl := List.mem_of_getElem? (i := 40) (by decide +kernel)
section Start
variable {b : Nat} {s : State} {A : Nat → Prop}
theorem st_tab {tm : Term} {N i0 : Nat} {vs : List Int32} {ty : FieldType} (hs : ∀ c ∈ NFl, c.before #[Value.ref b] s = true) (hN : N < 2 ^ 31) (har : Cond.arrayOf tm ty ∈ NFl) (hle : Cond.eq (.length tm) (.int (Int32.ofNat N)) ∈ NFl) (hel : ∀ j, j < N → NFl[i0 + j]? = some (Cond.eq (.elem tm (.int (Int32.ofNat j))) (.int (vs.getD j 0)))) (hA : ∀ a : Nat, a < s.heap.size → ¬ A a) :
    ∃ t : Nat, tm.eval #[Value.ref b] s none [] s = some (.ref t) ∧ va_T ty t N (fun j => .int (vs.getD j 0)) A s s.heap :=
  va_Tof hN (hs _ har) (va_eqt (hs _ hle)) (fun j hj => va_eqt (hs _ (List.mem_of_getElem? (hel j hj)))) hA
theorem st_str {tm : Term} (hs : ∀ c ∈ NFl, c.before #[Value.ref b] s = true) (hx : Cond.exactly tm "java/lang/String" ∈ NFl) : ∃ a : Nat, tm.eval #[Value.ref b] s none [] s = some (.ref a) := by
  obtain ⟨a, c, cA, kA, q1, -⟩ := Cond.exactly_spec (args := #[Value.ref b]) (first := s) (o := none) (s := s) (idx := []) (t := tm) (cls := "java/lang/String") (hs _ hx)
  exact ⟨a, q1⟩
theorem st_kw {tm : Term} {N i0 : Nat} {vs : List Int32} (hs : ∀ c ∈ NFl, c.before #[Value.ref b] s = true) (hN : N < 2 ^ 31) (hx : Cond.exactly tm "java/lang/String" ∈ NFl) (hc : Cond.eq (.field tm "java/lang/String" "coder" "B") (.int 0) ∈ NFl) (har : Cond.arrayOf (.field tm "java/lang/String" "value" "[B") .byte ∈ NFl) (hle : Cond.eq (.length (.field tm "java/lang/String" "value" "[B")) (.int (Int32.ofNat N)) ∈ NFl) (hel : ∀ j, j < N → NFl[i0 + j]? = some (Cond.eq (.elem (.field tm "java/lang/String" "value" "[B") (.int (Int32.ofNat j))) (.int (vs.getD j 0)))) (hA : ∀ a : Nat, a < s.heap.size → ¬ A a) :
    ∃ a v : Nat, tm.eval #[Value.ref b] s none [] s = some (.ref a) ∧ va_O "java/lang/String" a A s s.heap ∧ va_OF "java/lang/String" "coder" "B" (.int 0) a A s s.heap ∧ va_OF "java/lang/String" "value" "[B" (.ref v) a A s s.heap ∧ va_T .byte v N (fun j => .int (vs.getD j 0)) A s s.heap := by
  obtain ⟨adK, adV, ⟨h1, -⟩, h2⟩ := vk_Sof (args := #[Value.ref b]) (s := s) (N := 1) (tm := fun _ => tm) (len := [N]) (byt := [vs]) (A := A) (fun i hi => by have e0 : i = 0 := (by omega); subst e0; exact hN) (fun i hi => hs _ hx) (fun i hi => hs _ hc) (fun i hi => hs _ har)
    (fun i hi => by have e0 : i = 0 := (by omega); subst e0; exact hs _ hle) (fun i hi j hj => by have e0 : i = 0 := (by omega); subst e0; exact hs _ (List.mem_of_getElem? (hel j hj))) (fun i j hi hj hij => by omega) hA
  obtain ⟨q1, q2, q3, q4⟩ := h1 0 (by omega)
  exact ⟨adK 0, adV 0, h2 0 (by omega), q1, q2, q3, q4⟩
theorem st_arr {args : Array Value} {ty : FieldType} (h : (Cond.arrayClass ty).before args s = true) : ∃ cA : ClassId, ArrOfT s cA ty ∧ s.vm.findClass ("[" ++ ty.toString) = some cA := by
  obtain ⟨c, k, comp, h1, h2, h3⟩ := Cond.arrayClass_spec h
  exact ⟨c, fun n z => ⟨fun k h => (by cases h), k, h2, comp, h3⟩, h1⟩
theorem st_aro {args : Array Value} {C : String} (h : (Cond.arrayOver (.object C)).before args s = true) : ∃ cA : ClassId, ArrOfT s cA (.object C) ∧ va_RA s cA (.object C) := by
  obtain ⟨comp, c, k, h1, h2, h3, h4, h5⟩ := Cond.arrayOver_spec h
  exact ⟨c, fun n z => ⟨fun k h => (by cases h), k, h3, comp, h4⟩, k, comp, h3, h4, h1, h5⟩
end Start
set_option maxHeartbeats 4000000 in
set_option maxRecDepth 100000 in
/-- the things that stand at the start, under their places -/
theorem start_G {s : State} {b L : Nat} {xs : Nat → Int32} (l : Launch) (hflags : l.flags = flags0) (hts : ∀ w ∈ lw_tbl, w.before #[Value.ref b] s = true) (hX : va_X b L xs s s.heap) (hbl : b < s.heap.size) (hgv : (Jvm.Cond.and given_1 narrow_1).before #[Value.ref b] s = true) :
    ∃ G : Gx, Gl G = l ∧ adr G 1000 = b ∧ Gb G = s.heap.size ∧ Gn G = L ∧ va_K (Gd G) vwCl (tysG G) s ∧ EX G s s.heap := by
  have hs : ∀ c ∈ NFl, c.before #[Value.ref b] s = true := flat_of_before _ hgv
  have htg : ∀ w ∈ gt, w.before #[Value.ref b] s = true := fun w hw => hts _ (List.mem_filter.mp hw).1
  have hA : ∀ a : Nat, a < s.heap.size → ¬ (s.heap.size ≤ a) := fun a h => Nat.not_le.mpr h
  obtain ⟨t1, e1, T1⟩ := st_tab (A := fun q => s.heap.size ≤ q) (ty := .int) (vs := [1, 3, 9, 27, 81, 243, 729, 2187, 6561]) hs (by omega) na_1001 nl_1001 ne_1001 hA
  obtain ⟨t2, e2, T2⟩ := st_tab (A := fun q => s.heap.size ≤ q) (ty := .int) (vs := [0, 2, 5, 7, 8]) hs (by omega) na_1002 nl_1002 ne_1002 hA
  obtain ⟨t3, e3, T3⟩ := st_tab (A := fun q => s.heap.size ≤ q) (ty := .int) (vs := [300, 0, 10, 2, 4, 0, 1, 100]) hs (by omega) na_1003 nl_1003 ne_1003 hA
  obtain ⟨t4, e4, T4⟩ := st_tab (A := fun q => s.heap.size ≤ q) (ty := .int) (vs := [5000, 50000, 3000, 10, 40, 1439, 1440, 9999]) hs (by omega) na_1004 nl_1004 ne_1004 hA
  obtain ⟨k0, v0, f0, ko0, kc0, kv0, kt0⟩ := st_kw (A := fun q => s.heap.size ≤ q) (vs := [98, 101, 97, 109]) hs (by omega) nx_1010 nc_1010 na_1010 nl_1010 ne_1010 hA
  have g0 := va_eqR (hs _ nm_1010) f0
  obtain ⟨k1, v1, f1, ko1, kc1, kv1, kt1⟩ := st_kw (A := fun q => s.heap.size ≤ q) (vs := [98, 101, 108, 108]) hs (by omega) nx_1011 nc_1011 na_1011 nl_1011 ne_1011 hA
  have g1 := va_eqR (hs _ nm_1011) f1
  obtain ⟨k2, v2, f2, ko2, kc2, kv2, kt2⟩ := st_kw (A := fun q => s.heap.size ≤ q) (vs := [113, 117, 105, 101, 116]) hs (by omega) nx_1012 nc_1012 na_1012 nl_1012 ne_1012 hA
  have g2 := va_eqR (hs _ nm_1012) f2
  obtain ⟨k3, v3, f3, ko3, kc3, kv3, kt3⟩ := st_kw (A := fun q => s.heap.size ≤ q) (vs := [114, 111, 112, 101]) hs (by omega) nx_1013 nc_1013 na_1013 nl_1013 ne_1013 hA
  have g3 := va_eqR (hs _ nm_1013) f3
  obtain ⟨m4, f4⟩ := st_str hs nx_1014
  obtain ⟨m5, f5⟩ := st_str hs nx_1015
  obtain ⟨m6, f6⟩ := st_str hs nx_1016
  obtain ⟨m7, f7⟩ := st_str hs nx_1017
  obtain ⟨m8, f8⟩ := st_str hs nx_1018
  obtain ⟨m9, f9⟩ := st_str hs nx_1019
  obtain ⟨c0, i0, K0⟩ := u_known (ws := gt) htg kls_0.2.1 (hts _ (List.mem_of_getElem? (i := 244) (by decide +kernel) : Cond.instantiable "BellTowerPlanner$BellState" 8 ∈ lw_tbl))
  obtain ⟨c1, i1, K1⟩ := u_known (ws := gt) htg kls_1.2.1 (hts _ (List.mem_of_getElem? (i := 365) (by decide +kernel) : Cond.instantiable "BellTowerPlanner$Chimes" 3 ∈ lw_tbl))
  obtain ⟨c2, i2, K2⟩ := u_known (ws := gt) htg kls_2.2.1 (hts _ (List.mem_of_getElem? (i := 296) (by decide +kernel) : Cond.instantiable "BellTowerPlanner$Hanging" 2 ∈ lw_tbl))
  obtain ⟨c3, i3, K3⟩ := u_known (ws := gt) htg kls_3.2.1 (hts _ (List.mem_of_getElem? (i := 408) (by decide +kernel) : Cond.instantiable "BellTowerPlanner$History" 4 ∈ lw_tbl))
  obtain ⟨c4, i4, K4⟩ := u_known (ws := gt) htg kls_4.2.1 (hts _ (List.mem_of_getElem? (i := 309) (by decide +kernel) : Cond.instantiable "BellTowerPlanner$Plans" 9 ∈ lw_tbl))
  obtain ⟨c5, i5, K5⟩ := u_known (ws := gt) htg kls_5.2.1 (hts _ (List.mem_of_getElem? (i := 383) (by decide +kernel) : Cond.instantiable "BellTowerPlanner$Ropes" 6 ∈ lw_tbl))
  obtain ⟨c6, i6, K6⟩ := u_known (ws := gt) htg kls_6.2.1 (hts _ (List.mem_of_getElem? (i := 343) (by decide +kernel) : Cond.instantiable "BellTowerPlanner$Swings" 5 ∈ lw_tbl))
  obtain ⟨c7, i7, K7⟩ := u_known (ws := gt) htg kls_7.2.1 (hts _ (List.mem_of_getElem? (i := 179) (by decide +kernel) : Cond.instantiable "BellTowerPlanner$Tower" 12 ∈ lw_tbl))
  obtain ⟨c8, i8, K8⟩ := u_known (ws := gt) htg kls_8.2.1 (hts _ (List.mem_of_getElem? (i := 141) (by decide +kernel) : Cond.instantiable "BellTowerPlanner$TowerText" 9 ∈ lw_tbl))
  obtain ⟨c9, i9, K9⟩ := u_known (ws := gt) htg kls_9.2.1 (hts _ (List.mem_of_getElem? (i := 133) (by decide +kernel) : Cond.instantiable "BellTowerPlanner" 11 ∈ lw_tbl))
  obtain ⟨c10, i10, K10⟩ := u_known (ws := gt) htg kls_10.2.1 (hts _ (List.mem_of_getElem? (i := 1428) (by decide +kernel) : Cond.instantiable "BellTowerPlannerModel" 41 ∈ lw_tbl))
  obtain ⟨a0, r0, s0⟩ := st_arr (hts _ (List.mem_of_getElem? (i := 177) (by decide +kernel) : Cond.arrayClass .int ∈ lw_tbl))
  obtain ⟨a1, r1, s1⟩ := st_arr (hts _ (List.mem_of_getElem? (i := 176) (by decide +kernel) : Cond.arrayClass .byte ∈ lw_tbl))
  obtain ⟨a2, r2, s2⟩ := st_arr (hts _ (List.mem_of_getElem? (i := 381) (by decide +kernel) : Cond.arrayClass .boolean ∈ lw_tbl))
  obtain ⟨a3, r3, s3⟩ := st_arr (hts _ (List.mem_of_getElem? (i := 2053) (by decide +kernel) : Cond.arrayClass .long ∈ lw_tbl))
  obtain ⟨a4, r4, s4⟩ := st_aro (hts _ (List.mem_of_getElem? (i := 243) (by decide +kernel) : Cond.arrayOver (.object "BellTowerPlanner$BellState") ∈ lw_tbl))
  obtain ⟨t5, w5, hZ5⟩ : ∃ (t5 : Nat) (v : Value), (v = .null ∨ v = .ref t5) ∧ va_Z "jdk/internal/util/Preconditions" "SIOOBE_FORMATTER" "Ljava/util/function/BiFunction;" v (fun q => s.heap.size ≤ q) s s.heap := by
    rcases va_Zqof (hts _ (List.mem_of_getElem? (i := 539) (by decide +kernel) : Cond.laysStatic "jdk/internal/util/Preconditions" "SIOOBE_FORMATTER" "Ljava/util/function/BiFunction;" ∈ lw_tbl)) (hts _ (List.mem_of_getElem? (i := 126) (by decide +kernel) : Cond.initialized "jdk/internal/util/Preconditions" ∈ lw_tbl)) (hs _ nz_1) hA with h | ⟨t, h⟩
    · exact ⟨0, .null, Or.inl rfl, h⟩
    · exact ⟨t, .ref t, Or.inr rfl, h⟩
  obtain ⟨hv5, hZ5⟩ := hZ5
  let G : Gx := (l, (fun k => ([c0, c1, c2, c3, c4, c5, c6, c7, c8, c9, c10] : List ClassId).getD k c0, fun k => ([i0, i1, i2, i3, i4, i5, i6, i7, i8, i9, i10] : List (Nat → Nat)).getD k i0), (fun k => ([a0, a1, a2, a3, a4] : List ClassId).getD k a0), s.heap.size, (fun k => ([b, t1, t2, t3, t4, t5, 0, 0, 0, 0, k0, k1, k2, k3, m4, m5, m6, m7, m8, m9, 0, 0, 0, 0, 0, 0, 0, 0, 0, 0, v0, v1, v2, v3] : List Nat).getD (k - 1000) 0), L, xs)
  refine ⟨G, rfl, rfl, rfl, rfl, ⟨?_, ?_⟩, ⟨?_, ?_, ?_, ?_, ?_, ?_⟩⟩
  · intro k q hq
    match k, hq with
    | 0, hq => cases hq; exact K0
    | 1, hq => cases hq; exact K1
    | 2, hq => cases hq; exact K2
    | 3, hq => cases hq; exact K3
    | 4, hq => cases hq; exact K4
    | 5, hq => cases hq; exact K5
    | 6, hq => cases hq; exact K6
    | 7, hq => cases hq; exact K7
    | 8, hq => cases hq; exact K8
    | 9, hq => cases hq; exact K9
    | 10, hq => cases hq; exact K10
    | k + 11, hq => simp at hq
  · intro k q hq
    match k, hq with
    | 0, hq => cases hq; exact ⟨r0, s0⟩
    | 1, hq => cases hq; exact ⟨r1, s1⟩
    | 2, hq => cases hq; exact ⟨r2, s2⟩
    | 3, hq => cases hq; exact ⟨r3, s3⟩
    | 4, hq => cases hq; exact ⟨r4, s4⟩
    | k + 5, hq => simp [tysG] at hq
  · exact List.forall_mem_cons.mpr ⟨⟨va_Zof (hts _ (List.mem_of_getElem? (i := 983) (by decide +kernel) : Cond.laysStatic "BellTowerPlanner$Plans" "POWER" "[I" ∈ lw_tbl)) (hts _ (List.mem_of_getElem? (i := 113) (by decide +kernel) : Cond.initialized "BellTowerPlanner$Plans" ∈ lw_tbl)) e1 hA, T1⟩, List.forall_mem_cons.mpr ⟨⟨va_Zof (hts _ (List.mem_of_getElem? (i := 581) (by decide +kernel) : Cond.laysStatic "BellTowerPlanner$TowerText" "FIRST_RANGE" "[I" ∈ lw_tbl)) (hts _ (List.mem_of_getElem? (i := 109) (by decide +kernel) : Cond.initialized "BellTowerPlanner$TowerText" ∈ lw_tbl)) e2 hA, T2⟩, List.forall_mem_cons.mpr ⟨⟨va_Zof (hts _ (List.mem_of_getElem? (i := 583) (by decide +kernel) : Cond.laysStatic "BellTowerPlanner$TowerText" "LEAST" "[I" ∈ lw_tbl)) (hts _ (List.mem_of_getElem? (i := 109) (by decide +kernel) : Cond.initialized "BellTowerPlanner$TowerText" ∈ lw_tbl)) e3 hA, T3⟩, List.forall_mem_cons.mpr ⟨⟨va_Zof (hts _ (List.mem_of_getElem? (i := 585) (by decide +kernel) : Cond.laysStatic "BellTowerPlanner$TowerText" "GREATEST" "[I" ∈ lw_tbl)) (hts _ (List.mem_of_getElem? (i := 109) (by decide +kernel) : Cond.initialized "BellTowerPlanner$TowerText" ∈ lw_tbl)) e4 hA, T4⟩, fun _ h => absurd h List.not_mem_nil⟩⟩⟩⟩
  · exact List.forall_mem_cons.mpr ⟨vk_R.of (hts _ (List.mem_of_getElem? (i := 509) (by decide +kernel) : Cond.stringRef "BellTowerPlanner$TowerText" 91 "beam" ∈ lw_tbl)) f0, List.forall_mem_cons.mpr ⟨vk_R.of (hts _ (List.mem_of_getElem? (i := 562) (by decide +kernel) : Cond.stringRef "BellTowerPlanner$TowerText" 97 "bell" ∈ lw_tbl)) f1, List.forall_mem_cons.mpr ⟨vk_R.of (hts _ (List.mem_of_getElem? (i := 563) (by decide +kernel) : Cond.stringRef "BellTowerPlanner$TowerText" 99 "quiet" ∈ lw_tbl)) f2, List.forall_mem_cons.mpr ⟨vk_R.of (hts _ (List.mem_of_getElem? (i := 564) (by decide +kernel) : Cond.stringRef "BellTowerPlanner$TowerText" 101 "rope" ∈ lw_tbl)) f3, List.forall_mem_cons.mpr ⟨vk_R.of (hts _ (List.mem_of_getElem? (i := 669) (by decide +kernel) : Cond.stringRef "BellTowerPlanner" 87 "the text buffer is full" ∈ lw_tbl)) f4, List.forall_mem_cons.mpr ⟨vk_R.of (hts _ (List.mem_of_getElem? (i := 719) (by decide +kernel) : Cond.stringRef "BellTowerPlanner" 332 "an argument is out of its range" ∈ lw_tbl)) f5, List.forall_mem_cons.mpr ⟨vk_R.of (hts _ (List.mem_of_getElem? (i := 737) (by decide +kernel) : Cond.stringRef "BellTowerPlanner" 327 "no tower text was loaded" ∈ lw_tbl)) f6, List.forall_mem_cons.mpr ⟨vk_R.of (hts _ (List.mem_of_getElem? (i := 837) (by decide +kernel) : Cond.stringRef "BellTowerPlanner" 334 "the bell does not hang" ∈ lw_tbl)) f7, List.forall_mem_cons.mpr ⟨vk_R.of (hts _ (List.mem_of_getElem? (i := 1107) (by decide +kernel) : Cond.stringRef "BellTowerPlanner" 228 "a bell has no gap to itself" ∈ lw_tbl)) f8, List.forall_mem_cons.mpr ⟨vk_R.of (hts _ (List.mem_of_getElem? (i := 1109) (by decide +kernel) : Cond.stringRef "BellTowerPlanner" 237 "the bells do not hang on the same beam" ∈ lw_tbl)) f9, List.forall_mem_cons.mpr ⟨vk_R.of (hts _ (List.mem_of_getElem? (i := 1608) (by decide +kernel) : Cond.stringRef "BellTowerPlannerModel" 159 "beam" ∈ lw_tbl)) g0, List.forall_mem_cons.mpr ⟨vk_R.of (hts _ (List.mem_of_getElem? (i := 1640) (by decide +kernel) : Cond.stringRef "BellTowerPlannerModel" 180 "bell" ∈ lw_tbl)) g1, List.forall_mem_cons.mpr ⟨vk_R.of (hts _ (List.mem_of_getElem? (i := 1645) (by decide +kernel) : Cond.stringRef "BellTowerPlannerModel" 185 "quiet" ∈ lw_tbl)) g2, List.forall_mem_cons.mpr ⟨vk_R.of (hts _ (List.mem_of_getElem? (i := 1650) (by decide +kernel) : Cond.stringRef "BellTowerPlannerModel" 190 "rope" ∈ lw_tbl)) g3, fun _ h => absurd h List.not_mem_nil⟩⟩⟩⟩⟩⟩⟩⟩⟩⟩⟩⟩⟩⟩
  · exact ⟨vx_Zqof (hts _ (List.mem_of_getElem? (i := 655) (by decide +kernel) : Cond.laysStatic "java/lang/Throwable" "UNASSIGNED_STACK" "[Ljava/lang/StackTraceElement;" ∈ lw_tbl)) (hts _ (List.mem_of_getElem? (i := 119) (by decide +kernel) : Cond.initialized "java/lang/Throwable" ∈ lw_tbl)) (hs _ nz_2) hA, vx_Zqof (hts _ (List.mem_of_getElem? (i := 657) (by decide +kernel) : Cond.laysStatic "java/lang/Throwable" "SUPPRESSED_SENTINEL" "Ljava/util/List;" ∈ lw_tbl)) (hts _ (List.mem_of_getElem? (i := 119) (by decide +kernel) : Cond.initialized "java/lang/Throwable" ∈ lw_tbl)) (hs _ nz_3) hA⟩
  · show l.stackTraces = false
    rw [Launch.stackTraces, hflags]; decide +kernel
  · refine ⟨?_, ?_, ?_, ?_⟩
    · exact List.forall_mem_cons.mpr ⟨va_Nw.of rfl (hts _ (List.mem_of_getElem? (i := 632) (by decide +kernel) : Cond.declares ⟨"java/lang/RuntimeException", "<init>", "(Ljava/lang/String;)V"⟩ ∈ lw_tbl)), List.forall_mem_cons.mpr ⟨va_Nw.of rfl (hts _ (List.mem_of_getElem? (i := 634) (by decide +kernel) : Cond.declares ⟨"java/lang/Exception", "<init>", "(Ljava/lang/String;)V"⟩ ∈ lw_tbl)), List.forall_mem_cons.mpr ⟨va_Nw.of rfl (hts _ (List.mem_of_getElem? (i := 636) (by decide +kernel) : Cond.declares ⟨"java/lang/Throwable", "<init>", "(Ljava/lang/String;)V"⟩ ∈ lw_tbl)), fun _ h => absurd h List.not_mem_nil⟩⟩⟩
    · exact List.forall_mem_cons.mpr ⟨va_Nw.of rfl (hts _ (List.mem_of_getElem? (i := 630) (by decide +kernel) : Cond.castable "java/lang/IllegalStateException" "java/lang/IllegalStateException" ∈ lw_tbl)), List.forall_mem_cons.mpr ⟨va_Nw.of rfl (hts _ (List.mem_of_getElem? (i := 712) (by decide +kernel) : Cond.castable "java/lang/IllegalArgumentException" "java/lang/IllegalArgumentException" ∈ lw_tbl)), List.forall_mem_cons.mpr ⟨va_Nw.of rfl (hts _ (List.mem_of_getElem? (i := 830) (by decide +kernel) : Cond.castable "java/util/NoSuchElementException" "java/util/NoSuchElementException" ∈ lw_tbl)), fun _ h => absurd h List.not_mem_nil⟩⟩⟩
    · exact List.forall_mem_cons.mpr ⟨va_Nc.of (hs _ nn_0), List.forall_mem_cons.mpr ⟨va_Nc.of (hs _ nn_1), List.forall_mem_cons.mpr ⟨va_Nc.of (hs _ nn_2), fun _ h => absurd h List.not_mem_nil⟩⟩⟩
    · exact List.forall_mem_cons.mpr ⟨va_Nw.of rfl (hts _ (List.mem_of_getElem? (i := 142) (by decide +kernel) : Cond.methodLinkNest "BellTowerPlanner" 9 ⟨"BellTowerPlanner$TowerText", "<init>", "()V"⟩ "BellTowerPlanner" ∈ lw_tbl)), List.forall_mem_cons.mpr ⟨va_Nw.of rfl (hts _ (List.mem_of_getElem? (i := 180) (by decide +kernel) : Cond.methodLinkNest "BellTowerPlanner" 18 ⟨"BellTowerPlanner$Tower", "<init>", "()V"⟩ "BellTowerPlanner" ∈ lw_tbl)), fun _ h => absurd h List.not_mem_nil⟩⟩
  · refine ⟨?_, ⟨?_, ?_⟩, ⟨hX, hbl⟩, ?_⟩
    · exact List.forall_mem_cons.mpr ⟨⟨ko0, kc0, kv0, kt0⟩, List.forall_mem_cons.mpr ⟨⟨ko1, kc1, kv1, kt1⟩, List.forall_mem_cons.mpr ⟨⟨ko2, kc2, kv2, kt2⟩, List.forall_mem_cons.mpr ⟨⟨ko3, kc3, kv3, kt3⟩, fun _ h => absurd h List.not_mem_nil⟩⟩⟩⟩
    · exact va_Zof (hts _ (List.mem_of_getElem? (i := 523) (by decide +kernel) : Cond.laysStatic "java/lang/String" "COMPACT_STRINGS" "Z" ∈ lw_tbl)) (hts _ (List.mem_of_getElem? (i := 124) (by decide +kernel) : Cond.initialized "java/lang/String" ∈ lw_tbl)) (va_eqi (hs _ nz_0)) hA
    · rcases hv5 with rfl | rfl
      · exact ⟨.null, Or.inl rfl, hZ5⟩
      · exact ⟨.ref 1005, Or.inr rfl, hZ5⟩
    · exact va_AO.of (hts _ (List.mem_of_getElem? (i := 243) (by decide +kernel) : Cond.arrayOver (.object "BellTowerPlanner$BellState") ∈ lw_tbl))
/-- the numbers behind the two makings -/
def mm0 : Nat → Nat → Int32 := (mset (mset (mset (mset (mset (mset (mset (mset (mset (mset (mset (mset (mset (mset (mset (mset (mset (mset (mset (mset (mset (mset (mset (mset (mset (mset (mset (mset (mset (mset (mset (mset (mset (mset (mset (mset (mset (mset (mset (mset (mset (mset (mset (fun _ _ => (0 : Int32)) 1 3 (-1)) 23 0 (-1)) 23 2 (-1)) 24 0 (-1)) 24 2 (-1)) 25 0 (-1)) 25 2 (-1)) 26 0 (-1)) 26 2 (-1)) 27 0 (-1)) 27 2 (-1)) 28 0 (-1)) 28 2 (-1)) 29 0 (-1)) 29 2 (-1)) 30 0 (-1)) 30 2 (-1)) 51 0 (-1)) 51 2 (-1)) 52 0 (-1)) 52 2 (-1)) 53 0 (-1)) 53 2 (-1)) 54 0 (-1)) 54 2 (-1)) 55 0 (-1)) 55 2 (-1)) 56 0 (-1)) 56 2 (-1)) 57 0 (-1)) 57 2 (-1)) 58 0 (-1)) 58 2 (-1)) 59 0 (-1)) 59 2 (-1)) 60 0 (-1)) 60 2 (-1)) 61 0 (-1)) 61 2 (-1)) 62 0 (-1)) 62 2 (-1)) 0 10 0) 63 25 (-1))
theorem gt6 {L k : Nat} (hL : L ≤ 3072) (hk : k ≤ 4000) : nI L - 6 < nI k ↔ L < k + 6 := by
  rw [Int32.lt_iff_toInt_lt, Int32.toInt_sub, nI_toInt (by omega), nI_toInt (by omega)]
  have e : (6 : Int32).toInt = 6 := by decide
  rw [e]
  simp only [Int.bmod]
  split <;> omega
section Entry
variable {G : Gx} {I : (Nat → Nat → Int32) → Prop}
theorem law_loop (hL : Gn G ≤ 3072) (ops : OPS G I) : ∀ (n k : Nat) (mm : Nat → Nat → Int32) (lm : Nat → Int64), I mm → k + 6 * n ≤ Gn G → Gn G < k + 6 * n + 6 → ∃ z, J G M_L_law 23 [(4, .int (nI k)), (3, .ref 85), (2, .ref 63), (1, .ref 0), (0, .ref 1000)] [] (SH, mm, lm) false (.inl (some (.int 1))) z false n (6 * n) := by
  intro n
  induction n with
  | zero =>
    intro k mm lm hI h1 h2
    refine ⟨(SH, mm, lm), ?_⟩
    refine J_iload (i := 4) rfl dL_law_23 ?_
    refine J_aload_n rfl (i := 0) rfl dL_law_25 ?_
    refine J_slen dL_law_26 ?_
    refine J_bipush (v := 6) (by decide) dL_law_27 ?_
    refine J_isub dL_law_29 ?_
    refine J_icmp_gt (tgt := 3007) dL_law_30 (by decide) (fun _ => ?_) (fun h => absurd ((gt6 hL (by omega)).mpr (by omega)) h)
    refine J_iconst (v := 1) (by decide) dL_law_3007 ?_
    exact J_fini (ty := .boolean) rfl rfl dL_law_3008 ⟨rfl, rfl⟩
  | succ n ih =>
    intro k mm lm hI h1 h2
    obtain ⟨z, hz⟩ := law_step (o := .inl (some (.int 1))) (a := n) (b := 6 * n) (k := k) (mm := mm) (lm := lm) (by omega) (by omega) ops hI (fun mm2 l1 hI2 => by
      have q := ih (k + 6) mm2 l1 hI2 (by omega) (by omega)
      rw [← nI_add] at q
      exact q)
    refine ⟨z, ?_⟩
    refine J_iload (i := 4) rfl dL_law_23 ?_
    refine J_aload_n rfl (i := 0) rfl dL_law_25 ?_
    refine J_slen dL_law_26 ?_
    refine J_bipush (v := 6) (by decide) dL_law_27 ?_
    refine J_isub dL_law_29 ?_
    refine J_icmp_gt (tgt := 3007) dL_law_30 (by decide) (fun h => absurd ((gt6 hL (by omega)).mp h) (by omega)) (fun _ => ?_)
    refine J_aload_n rfl (i := 0) rfl dL_law_33 ?_
    refine J_iload (i := 4) rfl dL_law_34 ?_
    refine J_sld (j := k) rfl (by omega) (by omega) dL_law_36 ?_
    refine J_bipush (v := 63) (by decide) dL_law_37 ?_
    refine J_iand dL_law_39 ?_
    exact hz
def mm9 : Nat → Nat → Int32 := (mset (mset (mset (mset (mset (mset (mset (mset (mset (mset (mset (mset (mset (mset (mset (mset (mset (mset (mset (mset (mset (mset (mset (mset (mset (mset (mset (mset (mset (mset (mset (mset (mset (mset (mset (mset (mset (mset (mset (mset (mset (mset (fun _ _ => (0 : Int32)) 1 3 (-1)) 23 0 (-1)) 23 2 (-1)) 24 0 (-1)) 24 2 (-1)) 25 0 (-1)) 25 2 (-1)) 26 0 (-1)) 26 2 (-1)) 27 0 (-1)) 27 2 (-1)) 28 0 (-1)) 28 2 (-1)) 29 0 (-1)) 29 2 (-1)) 30 0 (-1)) 30 2 (-1)) 51 0 (-1)) 51 2 (-1)) 52 0 (-1)) 52 2 (-1)) 53 0 (-1)) 53 2 (-1)) 54 0 (-1)) 54 2 (-1)) 55 0 (-1)) 55 2 (-1)) 56 0 (-1)) 56 2 (-1)) 57 0 (-1)) 57 2 (-1)) 58 0 (-1)) 58 2 (-1)) 59 0 (-1)) 59 2 (-1)) 60 0 (-1)) 60 2 (-1)) 61 0 (-1)) 61 2 (-1)) 62 0 (-1)) 62 2 (-1)) 0 10 0)
theorem zf9 : Zf 63 mm9 := (Zf.mset (Zf.mset (Zf.mset (Zf.mset (Zf.mset (Zf.mset (Zf.mset (Zf.mset (Zf.mset (Zf.mset (Zf.mset (Zf.mset (Zf.mset (Zf.mset (Zf.mset (Zf.mset (Zf.mset (Zf.mset (Zf.mset (Zf.mset (Zf.mset (Zf.mset (Zf.mset (Zf.mset (Zf.mset (Zf.mset (Zf.mset (Zf.mset (Zf.mset (Zf.mset (Zf.mset (Zf.mset (Zf.mset (Zf.mset (Zf.mset (Zf.mset (Zf.mset (Zf.mset (Zf.mset (Zf.mset (Zf.mset (Zf.mset (Zf.mono (by decide) (fun _ _ _ => rfl : Zf 1 (fun _ _ => (0 : Int32)))) (by decide)) (by decide)) (by decide)) (by decide)) (by decide)) (by decide)) (by decide)) (by decide)) (by decide)) (by decide)) (by decide)) (by decide)) (by decide)) (by decide)) (by decide)) (by decide)) (by decide)) (by decide)) (by decide)) (by decide)) (by decide)) (by decide)) (by decide)) (by decide)) (by decide)) (by decide)) (by decide)) (by decide)) (by decide)) (by decide)) (by decide)) (by decide)) (by decide)) (by decide)) (by decide)) (by decide)) (by decide)) (by decide)) (by decide)) (by decide)) (by decide)) (by decide))
def fv0 (o : Option (Option Nat)) : Value := match o with
  | none => .int 0
  | some _ => .null
theorem fv_blank (sl : List (Option (Option Nat))) (h : sl.all (fun o => o == none || o == some none) = true) : sl.mapIdx (fv G (fun _ => 0)) = sl.map fv0 := by
  apply List.ext_getElem?
  intro i
  simp only [List.getElem?_mapIdx, List.getElem?_map]
  cases hs : sl[i]? with
  | none => rfl
  | some o =>
    have hm := List.all_eq_true.mp h o (List.mem_of_getElem? hs)
    rcases o with _ | _ | r
    · rfl
    · rfl
    · simp at hm
theorem hfs10 : (List.range 41).map (fun j => defaultValue (tyX10 j)) = ([some none, some none, none, none, none, none, some none, some none, none, some none, some none, some none, none, some none, some none, none, some none, some none, none, none, none, none, none, none, none, none, some none, none, none, none, none, none, some none, some none, some none, some none, some none, some none, some none, some none, some none] : List (Option (Option Nat))).mapIdx (fv G (fun _ => 0)) := by
  rw [fv_blank _ (by decide)]
  decide +kernel
theorem take_put {α : Type} {l : List α} {n : Nat} {x y : α} (h : l[n]? = some y) : l.take n ++ [x] = (l.take (n + 1)).set n x := by
  have hn : n < l.length := (List.getElem?_eq_some_iff.mp h).1
  rw [List.take_add_one, h]
  have e : (l.take n).length = n := by simp; omega
  rw [List.set_append_right _ _ (by omega), e, Nat.sub_self]
  rfl
set_option maxRecDepth 40000 in
set_option maxHeartbeats 1000000 in
theorem law_e3 {o : Ou} {z : Wd} {a b : Nat} (hz : J G M_L_law 23 [(4, .int 0), (3, .ref 85), (2, .ref 63), (1, .ref 0), (0, .ref 1000)] [] (SH, mm0, fun _ => 0) false o z false a b) : J G M_L_law 15 [(1, .ref 0), (0, .ref 1000)] [.ref 63] (SH.take 85, mm0, fun _ => 0) true o z false (a + 1) (b + 1) := by
  have hz9 : Zf 85 mm0 := Zf.mset (Zf.mono (by decide) zf9) (by decide)
  refine J_astore_n [(2, .ref 63), (1, .ref 0), (0, .ref 1000)] rfl (i := 2) (by decide) rfl dL_law_15 ?_
  refine J_iconst (v := 1) (by decide) dL_law_16 ?_
  refine J_newa (a := a) (b := b) (sh' := SH) (atype := .long) (ty := .long) (t := 3) (N := 1) rfl rfl 85 rfl (by decide) (fun j => hz9 85 j (Nat.le_refl _)) (fun _ _ => rfl) rfl (by decide) (by decide) (Nat.le_of_ble_eq_true rfl) (fun C h => by cases h) gw_2053 dL_law_17 rfl ?_
  refine J_astore_n [(3, .ref 85), (2, .ref 63), (1, .ref 0), (0, .ref 1000)] rfl (i := 3) (by decide) rfl dL_law_19 ?_
  refine J_iconst (v := 0) (by decide) dL_law_20 ?_
  refine J_istore [(4, .int 0), (3, .ref 85), (2, .ref 63), (1, .ref 0), (0, .ref 1000)] (i := 4) (by decide) rfl dL_law_21 ?_
  exact J_weak hz
set_option maxRecDepth 40000 in
set_option maxHeartbeats 1000000 in
theorem law_e2 {o : Ou} {z : Wd} {a b : Nat} (hz : J G M_L_law 15 [(1, .ref 0), (0, .ref 1000)] [.ref 63] (SH.take 85, mm0, fun _ => 0) true o z false a b) : J G M_L_law 7 [(0, .ref 1000)] [.ref 0] (SH.take 63, mm9, fun _ => 0) true o z false (a + 22) (b + 17319) := by
  refine J_astore_n [(1, .ref 0), (0, .ref 1000)] rfl (i := 1) (by decide) rfl dL_law_7 ?_
  refine J_new (a := a + 21) (b := b + 17278) (sh' := (List.set (SH.take 64) 63 (.inl (10, [some none, some none, none, none, none, none, some none, some none, none, some none, some none, some none, none, some none, some none, none, some none, some none, none, none, none, none, none, none, none, none, some none, none, none, none, none, none, some none, some none, some none, some none, some none, some none, some none, some none, some none])))) kls_10 63 rfl (by decide) (fun j => zf9 63 j (Nat.le_refl _)) hfs10 gw_1427 gw_1428 gw_118 dL_law_8 (take_put sh_63) ?_
  refine J_dupr dL_law_11 ?_
  refine J_callI (as := []) (k := 63) (st := [.ref 63]) (a1 := 21) (b1 := 17278) (a2 := a) (b2 := b) cal_X10_init cii_X10_init rfl rfl gw_1429 ⟨by decide, by decide⟩ cnt_X10_init rfl (Nat.le_of_ble_eq_true rfl) dL_law_12 (Nat.add_comm _ _) (Nat.add_comm _ _) (ci_X10_init_63 (Zf.mono (by decide) zf9)) ?_
  exact hz
set_option maxRecDepth 40000 in
set_option maxHeartbeats 1000000 in
theorem law_e1 {o : Ou} {z : Wd} {a b : Nat} (hz : J G M_L_law 7 [(0, .ref 1000)] [.ref 0] (SH.take 63, mm9, fun _ => 0) true o z false a b) : J G M_L_law 0 [(0, .ref 1000)] [] ([], (fun _ _ => (0 : Int32)), fun _ => 0) true o z false (a + 63) (b + 18130) := by
  refine J_new (a := a + 62) (b := b + 18119) (sh' := (List.set (SH.take 1) 0 (.inl (9, [some none, some none, some none, some none, some none, some none, some none, some none, some none, some none, none])))) kls_9 0 rfl (by decide) (fun _ => rfl) rfl gw_132 gw_133 gw_108 dL_law_0 rfl ?_
  refine J_dupr dL_law_3 ?_
  refine J_callI (as := []) (k := 0) (st := [.ref 0]) (a1 := 62) (b1 := 18119) (a2 := a) (b2 := b) cal_X9_init cii_X9_init rfl rfl gw_134 ⟨by decide, by decide⟩ cnt_X9_init rfl (Nat.le_of_ble_eq_true rfl) dL_law_4 (Nat.add_comm _ _) (Nat.add_comm _ _) (ci_X9_init_0 (mm := (fun _ _ => (0 : Int32))) (fun _ _ _ => rfl)) ?_
  exact hz
theorem law_entry (hL : Gn G ≤ 3072) (ops : OPS G I) (h0 : I mm0) : ∃ z n, n ≤ 512 ∧ J G M_L_law 0 [(0, .ref 1000)] [] ([], (fun _ _ => (0 : Int32)), fun _ => 0) true (.inl (some (.int 1))) z false (n + 86) (6 * n + 35450) := by
  obtain ⟨z, hz⟩ := law_loop hL ops (Gn G / 6) 0 mm0 (fun _ => 0) h0 (by omega) (by omega)
  refine ⟨z, Gn G / 6, by omega, ?_⟩
  generalize Gn G / 6 = n at hz ⊢
  exact J_more (by omega) (by omega) (law_e1 (law_e2 (law_e3 hz)))
end Entry
