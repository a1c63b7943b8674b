/-! ===== constructors, by program (wip/gen/mk24.py) ===== -/
def Zf (n : Nat) (mm : Nat → Nat → Int32) : Prop := ∀ c j, n ≤ c → mm c j = 0
theorem Zf.mono {n n' : Nat} {mm : Nat → Nat → Int32} (h : n ≤ n') (hz : Zf n mm) : Zf n' mm := fun c j hc => hz c j (Nat.le_trans h hc)
theorem Zf.mset {n q k : Nat} {v : Int32} {mm : Nat → Nat → Int32} (hz : Zf n mm) (hq : q < n) : Zf n (mset mm q k v) := fun c j hc => by
  have : c ≠ q := by omega
  rw [mset_ne this]; exact hz c j hc
theorem up_f (b j : Nat) : ∀ k, (if k < j + 1 then some (b + k) else none) = va_up (fun x => if x < j then some (b + x) else none) j (some (b + j)) k := by
  intro k
  simp only [va_up]
  by_cases h : k = j
  · subst h; simp
  · rw [if_neg h]
    by_cases h2 : k < j
    · rw [if_pos (by omega), if_pos h2]
    · rw [if_neg (by omega), if_neg h2]
section Nest
variable {G : Gx} {M Mc : Md} {pc : Nat} {L : List (Nat × Value)} {st stk : List Value} {w z z1 : Wd} {g g1 h : Bool} {o : Ou} {a b a1 b1 a2 b2 : Nat}
/-- a private constructor of a nest mate -/
theorem J_callIN {as : List Value} {k idx : Nat} (hl : (idx, mY Mc) ∈ nestS) (hc : Cal Mc) (hi : Cond.instanceMethod (mY Mc) ∈ gt) (hy : (mY Mc).name = "<init>") (hv : mR Mc = none) (hr : Rm M Mc) (hn : Cnt Mc as.length)
    (hstk : stk = as.reverse ++ .ref k :: st) (hsum : (st.map fun v => v.category).sum ≤ 8) (hd : decode (mC M) pc = .ok (.invokespecial idx, 3)) (ha : a = a1 + a2) (hb : b = b1 + b2)
    (hct : Ct G Mc (.ref k :: as) w g (.inl none) z1 g1 a1 b1) (kk : J G M (pc + 3) L st z1 g1 o z h a2 b2) (hown : (mY M).cls = "BellTowerPlanner") : J G M pc L stk w g o z h a b := by
  subst hstk; subst ha; subst hb
  intro p e R s m args below meth c C H locs ls cells slots hR hlv ha hb
  have hts := C.2.2.2.2.2.2.2.1
  have hF := C.2.2.2.2.2.2.2.2.2.2.2.2.1
  have hL := C.2.2.2.2.2.2.2.2.2.2.2.2.2.1
  obtain ⟨h1, h2, h3, h4⟩ := hc
  have e1 : mW Mc = .code (mY Mc) (mC Mc) (mN Mc) none := by rw [mW_nil h1, hv]
  have hnest := C.2.2.2.2.2.2.2.2.2.1.2.2.2.2.1.2.2.2 _ hl
  have cw : va_CN R s args (mY M).cls idx (mY Mc) "BellTowerPlanner" (mC Mc) (mN Mc) none (mW Mc :: gt) { frames := mF Mc, cells := a1, slots := b1, locals := mL Mc } a1 b1 as.length :=
    ⟨⟨rfl, rfl, Nat.le_trans hr.1 hF, Nat.le_trans hr.2 hL, pay_in hts (ws_ok h2), by rw [← e1]; exact List.mem_cons_self⟩, by rw [← e1]; exact hts _ h2, hts _ h3, h4, fun sig hs => by
      have q := hn
      unfold Cnt at q
      rw [hs] at q
      exact (Option.some.inj q).symm, by rw [hown]; exact va_Nw.use rfl hnest⟩
  have hrun : vx_Run p (Gl G) e R s m args below meth c H locs cells slots a1 b1 (F0 m pc ls ((as.reverse ++ .ref k :: st).map (cv G))) (st.map (cv G)) (Qr G (.inl none) z1 g1 (Value.ref (adr G k) :: as.map (cv G)).toArray) (Xr G (.inl none) z1) (gA G) :=
    vx_runIN (b := adr G k) (As := as.map (cv G)) (fix_of C) hct ⟨by rw [List.length_map]; exact cw, hy, hts _ hi⟩ ⟨Pq_blind, fun U hU hW => Pq_of (as := .ref k :: as) C hR hU hW⟩ rfl rfl hlv.1 (by simp [List.map_append, List.map_reverse, cv]) (by show 2 * 0 + _ ≤ 8; rw [sum_c]; omega) hd ⟨by omega, by omega⟩
  refine core_ret hrun hR.2.1 fun H1 locs1 hR1 => ?_
  have q := kk p e R s m args below meth c C H1 locs1 ls (cells + a1) (slots + b1) hR1 hlv (by omega) (by omega)
  rw [← Nat.add_assoc, ← Nat.add_assoc]
  exact q
end Nest
theorem gw_135 : Cond.instanceMethod ⟨"BellTowerPlanner", "<init>", "()V"⟩ ∈ gt := gt_in (List.mem_of_getElem? (i := 135) (by decide +kernel)) (by decide +kernel)
theorem gw_136 : Cond.code ⟨"BellTowerPlanner", "<init>", "()V"⟩ prog_1_method_1_code 2 none ∈ gt := gt_in (List.mem_of_getElem? (i := 136) (by decide +kernel)) (by decide +kernel)
theorem gw_137 : Cond.methodLink "BellTowerPlanner" 1 ⟨"java/lang/Object", "<init>", "()V"⟩ ∈ gt := gt_in (List.mem_of_getElem? (i := 137) (by decide +kernel)) (by decide +kernel)
theorem gw_138 : Cond.instanceMethod ⟨"java/lang/Object", "<init>", "()V"⟩ ∈ gt := gt_in (List.mem_of_getElem? (i := 138) (by decide +kernel)) (by decide +kernel)
theorem gw_139 : Cond.code ⟨"java/lang/Object", "<init>", "()V"⟩ object_method_1_code 1 none ∈ gt := gt_in (List.mem_of_getElem? (i := 139) (by decide +kernel)) (by decide +kernel)
theorem gw_140 : Cond.classLink "BellTowerPlanner" 7 "BellTowerPlanner$TowerText" ∈ gt := gt_in (List.mem_of_getElem? (i := 140) (by decide +kernel)) (by decide +kernel)
theorem gw_141 : Cond.instantiable "BellTowerPlanner$TowerText" 9 ∈ gt := gt_in (List.mem_of_getElem? (i := 141) (by decide +kernel)) (by decide +kernel)
theorem gw_143 : Cond.instanceMethod ⟨"BellTowerPlanner$TowerText", "<init>", "()V"⟩ ∈ gt := gt_in (List.mem_of_getElem? (i := 143) (by decide +kernel)) (by decide +kernel)
theorem gw_144 : Cond.code ⟨"BellTowerPlanner$TowerText", "<init>", "()V"⟩ prog_10_method_1_code 1 none ∈ gt := gt_in (List.mem_of_getElem? (i := 144) (by decide +kernel)) (by decide +kernel)
theorem gw_145 : Cond.methodLink "BellTowerPlanner$TowerText" 3 ⟨"java/lang/Object", "<init>", "()V"⟩ ∈ gt := gt_in (List.mem_of_getElem? (i := 145) (by decide +kernel)) (by decide +kernel)
theorem gw_176 : Cond.arrayClass .byte ∈ gt := gt_in (List.mem_of_getElem? (i := 176) (by decide +kernel)) (by decide +kernel)
theorem gw_177 : Cond.arrayClass .int ∈ gt := gt_in (List.mem_of_getElem? (i := 177) (by decide +kernel)) (by decide +kernel)
theorem gw_178 : Cond.classLink "BellTowerPlanner" 16 "BellTowerPlanner$Tower" ∈ gt := gt_in (List.mem_of_getElem? (i := 178) (by decide +kernel)) (by decide +kernel)
theorem gw_179 : Cond.instantiable "BellTowerPlanner$Tower" 12 ∈ gt := gt_in (List.mem_of_getElem? (i := 179) (by decide +kernel)) (by decide +kernel)
theorem gw_181 : Cond.instanceMethod ⟨"BellTowerPlanner$Tower", "<init>", "()V"⟩ ∈ gt := gt_in (List.mem_of_getElem? (i := 181) (by decide +kernel)) (by decide +kernel)
theorem gw_182 : Cond.code ⟨"BellTowerPlanner$Tower", "<init>", "()V"⟩ prog_9_method_1_code 1 none ∈ gt := gt_in (List.mem_of_getElem? (i := 182) (by decide +kernel)) (by decide +kernel)
theorem gw_183 : Cond.methodLink "BellTowerPlanner$Tower" 3 ⟨"java/lang/Object", "<init>", "()V"⟩ ∈ gt := gt_in (List.mem_of_getElem? (i := 183) (by decide +kernel)) (by decide +kernel)
theorem gw_242 : Cond.classLink "BellTowerPlanner" 26 "BellTowerPlanner$BellState" ∈ gt := gt_in (List.mem_of_getElem? (i := 242) (by decide +kernel)) (by decide +kernel)
theorem gw_244 : Cond.instantiable "BellTowerPlanner$BellState" 8 ∈ gt := gt_in (List.mem_of_getElem? (i := 244) (by decide +kernel)) (by decide +kernel)
theorem gw_245 : Cond.methodLink "BellTowerPlanner" 32 ⟨"BellTowerPlanner$BellState", "<init>", "()V"⟩ ∈ gt := gt_in (List.mem_of_getElem? (i := 245) (by decide +kernel)) (by decide +kernel)
theorem gw_246 : Cond.instanceMethod ⟨"BellTowerPlanner$BellState", "<init>", "()V"⟩ ∈ gt := gt_in (List.mem_of_getElem? (i := 246) (by decide +kernel)) (by decide +kernel)
theorem gw_247 : Cond.code ⟨"BellTowerPlanner$BellState", "<init>", "()V"⟩ prog_2_method_1_code 1 none ∈ gt := gt_in (List.mem_of_getElem? (i := 247) (by decide +kernel)) (by decide +kernel)
theorem gw_248 : Cond.methodLink "BellTowerPlanner$BellState" 3 ⟨"java/lang/Object", "<init>", "()V"⟩ ∈ gt := gt_in (List.mem_of_getElem? (i := 248) (by decide +kernel)) (by decide +kernel)
theorem gw_295 : Cond.classLink "BellTowerPlanner" 33 "BellTowerPlanner$Hanging" ∈ gt := gt_in (List.mem_of_getElem? (i := 295) (by decide +kernel)) (by decide +kernel)
theorem gw_296 : Cond.instantiable "BellTowerPlanner$Hanging" 2 ∈ gt := gt_in (List.mem_of_getElem? (i := 296) (by decide +kernel)) (by decide +kernel)
theorem gw_297 : Cond.methodLink "BellTowerPlanner" 35 ⟨"BellTowerPlanner$Hanging", "<init>", "(LBellTowerPlanner$Tower;[LBellTowerPlanner$BellState;)V"⟩ ∈ gt := gt_in (List.mem_of_getElem? (i := 297) (by decide +kernel)) (by decide +kernel)
theorem gw_298 : Cond.instanceMethod ⟨"BellTowerPlanner$Hanging", "<init>", "(LBellTowerPlanner$Tower;[LBellTowerPlanner$BellState;)V"⟩ ∈ gt := gt_in (List.mem_of_getElem? (i := 298) (by decide +kernel)) (by decide +kernel)
theorem gw_299 : Cond.code ⟨"BellTowerPlanner$Hanging", "<init>", "(LBellTowerPlanner$Tower;[LBellTowerPlanner$BellState;)V"⟩ prog_4_method_1_code 3 none ∈ gt := gt_in (List.mem_of_getElem? (i := 299) (by decide +kernel)) (by decide +kernel)
theorem gw_300 : Cond.methodLink "BellTowerPlanner$Hanging" 3 ⟨"java/lang/Object", "<init>", "()V"⟩ ∈ gt := gt_in (List.mem_of_getElem? (i := 300) (by decide +kernel)) (by decide +kernel)
theorem gw_308 : Cond.classLink "BellTowerPlanner" 42 "BellTowerPlanner$Plans" ∈ gt := gt_in (List.mem_of_getElem? (i := 308) (by decide +kernel)) (by decide +kernel)
theorem gw_309 : Cond.instantiable "BellTowerPlanner$Plans" 9 ∈ gt := gt_in (List.mem_of_getElem? (i := 309) (by decide +kernel)) (by decide +kernel)
theorem gw_310 : Cond.methodLink "BellTowerPlanner" 44 ⟨"BellTowerPlanner$Plans", "<init>", "(LBellTowerPlanner$Tower;[LBellTowerPlanner$BellState;)V"⟩ ∈ gt := gt_in (List.mem_of_getElem? (i := 310) (by decide +kernel)) (by decide +kernel)
theorem gw_311 : Cond.instanceMethod ⟨"BellTowerPlanner$Plans", "<init>", "(LBellTowerPlanner$Tower;[LBellTowerPlanner$BellState;)V"⟩ ∈ gt := gt_in (List.mem_of_getElem? (i := 311) (by decide +kernel)) (by decide +kernel)
theorem gw_312 : Cond.code ⟨"BellTowerPlanner$Plans", "<init>", "(LBellTowerPlanner$Tower;[LBellTowerPlanner$BellState;)V"⟩ prog_6_method_1_code 3 none ∈ gt := gt_in (List.mem_of_getElem? (i := 312) (by decide +kernel)) (by decide +kernel)
theorem gw_313 : Cond.methodLink "BellTowerPlanner$Plans" 3 ⟨"java/lang/Object", "<init>", "()V"⟩ ∈ gt := gt_in (List.mem_of_getElem? (i := 313) (by decide +kernel)) (by decide +kernel)
theorem gw_342 : Cond.classLink "BellTowerPlanner" 49 "BellTowerPlanner$Swings" ∈ gt := gt_in (List.mem_of_getElem? (i := 342) (by decide +kernel)) (by decide +kernel)
theorem gw_343 : Cond.instantiable "BellTowerPlanner$Swings" 5 ∈ gt := gt_in (List.mem_of_getElem? (i := 343) (by decide +kernel)) (by decide +kernel)
theorem gw_344 : Cond.methodLink "BellTowerPlanner" 51 ⟨"BellTowerPlanner$Swings", "<init>", "(LBellTowerPlanner$Tower;[LBellTowerPlanner$BellState;)V"⟩ ∈ gt := gt_in (List.mem_of_getElem? (i := 344) (by decide +kernel)) (by decide +kernel)
theorem gw_345 : Cond.instanceMethod ⟨"BellTowerPlanner$Swings", "<init>", "(LBellTowerPlanner$Tower;[LBellTowerPlanner$BellState;)V"⟩ ∈ gt := gt_in (List.mem_of_getElem? (i := 345) (by decide +kernel)) (by decide +kernel)
theorem gw_346 : Cond.code ⟨"BellTowerPlanner$Swings", "<init>", "(LBellTowerPlanner$Tower;[LBellTowerPlanner$BellState;)V"⟩ prog_8_method_1_code 3 none ∈ gt := gt_in (List.mem_of_getElem? (i := 346) (by decide +kernel)) (by decide +kernel)
theorem gw_347 : Cond.methodLink "BellTowerPlanner$Swings" 3 ⟨"java/lang/Object", "<init>", "()V"⟩ ∈ gt := gt_in (List.mem_of_getElem? (i := 347) (by decide +kernel)) (by decide +kernel)
theorem gw_364 : Cond.classLink "BellTowerPlanner" 56 "BellTowerPlanner$Chimes" ∈ gt := gt_in (List.mem_of_getElem? (i := 364) (by decide +kernel)) (by decide +kernel)
theorem gw_365 : Cond.instantiable "BellTowerPlanner$Chimes" 3 ∈ gt := gt_in (List.mem_of_getElem? (i := 365) (by decide +kernel)) (by decide +kernel)
theorem gw_366 : Cond.methodLink "BellTowerPlanner" 58 ⟨"BellTowerPlanner$Chimes", "<init>", "(LBellTowerPlanner$Tower;[LBellTowerPlanner$BellState;)V"⟩ ∈ gt := gt_in (List.mem_of_getElem? (i := 366) (by decide +kernel)) (by decide +kernel)
theorem gw_367 : Cond.instanceMethod ⟨"BellTowerPlanner$Chimes", "<init>", "(LBellTowerPlanner$Tower;[LBellTowerPlanner$BellState;)V"⟩ ∈ gt := gt_in (List.mem_of_getElem? (i := 367) (by decide +kernel)) (by decide +kernel)
theorem gw_368 : Cond.code ⟨"BellTowerPlanner$Chimes", "<init>", "(LBellTowerPlanner$Tower;[LBellTowerPlanner$BellState;)V"⟩ prog_3_method_1_code 3 none ∈ gt := gt_in (List.mem_of_getElem? (i := 368) (by decide +kernel)) (by decide +kernel)
theorem gw_369 : Cond.methodLink "BellTowerPlanner$Chimes" 3 ⟨"java/lang/Object", "<init>", "()V"⟩ ∈ gt := gt_in (List.mem_of_getElem? (i := 369) (by decide +kernel)) (by decide +kernel)
theorem gw_381 : Cond.arrayClass .boolean ∈ gt := gt_in (List.mem_of_getElem? (i := 381) (by decide +kernel)) (by decide +kernel)
theorem gw_382 : Cond.classLink "BellTowerPlanner" 63 "BellTowerPlanner$Ropes" ∈ gt := gt_in (List.mem_of_getElem? (i := 382) (by decide +kernel)) (by decide +kernel)
theorem gw_383 : Cond.instantiable "BellTowerPlanner$Ropes" 6 ∈ gt := gt_in (List.mem_of_getElem? (i := 383) (by decide +kernel)) (by decide +kernel)
theorem gw_384 : Cond.methodLink "BellTowerPlanner" 65 ⟨"BellTowerPlanner$Ropes", "<init>", "(LBellTowerPlanner$Tower;[LBellTowerPlanner$BellState;)V"⟩ ∈ gt := gt_in (List.mem_of_getElem? (i := 384) (by decide +kernel)) (by decide +kernel)
theorem gw_385 : Cond.instanceMethod ⟨"BellTowerPlanner$Ropes", "<init>", "(LBellTowerPlanner$Tower;[LBellTowerPlanner$BellState;)V"⟩ ∈ gt := gt_in (List.mem_of_getElem? (i := 385) (by decide +kernel)) (by decide +kernel)
theorem gw_386 : Cond.code ⟨"BellTowerPlanner$Ropes", "<init>", "(LBellTowerPlanner$Tower;[LBellTowerPlanner$BellState;)V"⟩ prog_7_method_1_code 3 none ∈ gt := gt_in (List.mem_of_getElem? (i := 386) (by decide +kernel)) (by decide +kernel)
theorem gw_387 : Cond.methodLink "BellTowerPlanner$Ropes" 5 ⟨"java/lang/Object", "<init>", "()V"⟩ ∈ gt := gt_in (List.mem_of_getElem? (i := 387) (by decide +kernel)) (by decide +kernel)
theorem gw_407 : Cond.classLink "BellTowerPlanner" 70 "BellTowerPlanner$History" ∈ gt := gt_in (List.mem_of_getElem? (i := 407) (by decide +kernel)) (by decide +kernel)
theorem gw_408 : Cond.instantiable "BellTowerPlanner$History" 4 ∈ gt := gt_in (List.mem_of_getElem? (i := 408) (by decide +kernel)) (by decide +kernel)
theorem gw_409 : Cond.methodLink "BellTowerPlanner" 72 ⟨"BellTowerPlanner$History", "<init>", "()V"⟩ ∈ gt := gt_in (List.mem_of_getElem? (i := 409) (by decide +kernel)) (by decide +kernel)
theorem gw_410 : Cond.instanceMethod ⟨"BellTowerPlanner$History", "<init>", "()V"⟩ ∈ gt := gt_in (List.mem_of_getElem? (i := 410) (by decide +kernel)) (by decide +kernel)
theorem gw_411 : Cond.code ⟨"BellTowerPlanner$History", "<init>", "()V"⟩ prog_5_method_1_code 2 none ∈ gt := gt_in (List.mem_of_getElem? (i := 411) (by decide +kernel)) (by decide +kernel)
theorem gw_412 : Cond.methodLink "BellTowerPlanner$History" 1 ⟨"java/lang/Object", "<init>", "()V"⟩ ∈ gt := gt_in (List.mem_of_getElem? (i := 412) (by decide +kernel)) (by decide +kernel)
theorem gw_413 : Cond.classLink "BellTowerPlanner$History" 13 "BellTowerPlanner$BellState" ∈ gt := gt_in (List.mem_of_getElem? (i := 413) (by decide +kernel)) (by decide +kernel)
theorem gw_414 : Cond.methodLink "BellTowerPlanner$History" 19 ⟨"BellTowerPlanner$BellState", "<init>", "()V"⟩ ∈ gt := gt_in (List.mem_of_getElem? (i := 414) (by decide +kernel)) (by decide +kernel)
theorem gw_1430 : Cond.instanceMethod ⟨"BellTowerPlannerModel", "<init>", "()V"⟩ ∈ gt := gt_in (List.mem_of_getElem? (i := 1430) (by decide +kernel)) (by decide +kernel)
theorem gw_1431 : Cond.code ⟨"BellTowerPlannerModel", "<init>", "()V"⟩ prog_12_method_1_code 1 none ∈ gt := gt_in (List.mem_of_getElem? (i := 1431) (by decide +kernel)) (by decide +kernel)
theorem gw_1432 : Cond.methodLink "BellTowerPlannerModel" 1 ⟨"java/lang/Object", "<init>", "()V"⟩ ∈ gt := gt_in (List.mem_of_getElem? (i := 1432) (by decide +kernel)) (by decide +kernel)
theorem dX0_init_0 : decode cX0_init 0 = .ok (.aload_n 0, 1) := by decide +kernel
theorem dX0_init_1 : decode cX0_init 1 = .ok (.invokespecial 3, 3) := by decide +kernel
theorem dX0_init_10 : decode cX0_init 10 = .ok (.iconst (-1), 1) := by decide +kernel
theorem dX0_init_11 : decode cX0_init 11 = .ok (.putfield 15, 3) := by decide +kernel
theorem dX0_init_14 : decode cX0_init 14 = .ok (.return_, 1) := by decide +kernel
theorem dX0_init_4 : decode cX0_init 4 = .ok (.aload_n 0, 1) := by decide +kernel
theorem dX0_init_5 : decode cX0_init 5 = .ok (.iconst (-1), 1) := by decide +kernel
theorem dX0_init_6 : decode cX0_init 6 = .ok (.putfield 9, 3) := by decide +kernel
theorem dX0_init_9 : decode cX0_init 9 = .ok (.aload_n 0, 1) := by decide +kernel
theorem dX10_init_0 : decode cX10_init 0 = .ok (.aload_n 0, 1) := by decide +kernel
theorem dX10_init_1 : decode cX10_init 1 = .ok (.invokespecial 1, 3) := by decide +kernel
theorem dX10_init_100 : decode cX10_init 100 = .ok (.newarray .int, 2) := by decide +kernel
theorem dX10_init_102 : decode cX10_init 102 = .ok (.putfield 47, 3) := by decide +kernel
theorem dX10_init_105 : decode cX10_init 105 = .ok (.aload_n 0, 1) := by decide +kernel
theorem dX10_init_106 : decode cX10_init 106 = .ok (.bipush 8, 2) := by decide +kernel
theorem dX10_init_108 : decode cX10_init 108 = .ok (.newarray .int, 2) := by decide +kernel
theorem dX10_init_110 : decode cX10_init 110 = .ok (.putfield 50, 3) := by decide +kernel
theorem dX10_init_113 : decode cX10_init 113 = .ok (.aload_n 0, 1) := by decide +kernel
theorem dX10_init_114 : decode cX10_init 114 = .ok (.bipush 8, 2) := by decide +kernel
theorem dX10_init_116 : decode cX10_init 116 = .ok (.newarray .int, 2) := by decide +kernel
theorem dX10_init_118 : decode cX10_init 118 = .ok (.putfield 53, 3) := by decide +kernel
theorem dX10_init_12 : decode cX10_init 12 = .ok (.aload_n 0, 1) := by decide +kernel
theorem dX10_init_121 : decode cX10_init 121 = .ok (.aload_n 0, 1) := by decide +kernel
theorem dX10_init_122 : decode cX10_init 122 = .ok (.bipush 8, 2) := by decide +kernel
theorem dX10_init_124 : decode cX10_init 124 = .ok (.newarray .int, 2) := by decide +kernel
theorem dX10_init_126 : decode cX10_init 126 = .ok (.putfield 56, 3) := by decide +kernel
theorem dX10_init_129 : decode cX10_init 129 = .ok (.aload_n 0, 1) := by decide +kernel
theorem dX10_init_13 : decode cX10_init 13 = .ok (.sipush 960, 3) := by decide +kernel
theorem dX10_init_130 : decode cX10_init 130 = .ok (.sipush 6561, 3) := by decide +kernel
theorem dX10_init_133 : decode cX10_init 133 = .ok (.newarray .int, 2) := by decide +kernel
theorem dX10_init_135 : decode cX10_init 135 = .ok (.putfield 59, 3) := by decide +kernel
theorem dX10_init_138 : decode cX10_init 138 = .ok (.aload_n 0, 1) := by decide +kernel
theorem dX10_init_139 : decode cX10_init 139 = .ok (.sipush 6561, 3) := by decide +kernel
theorem dX10_init_142 : decode cX10_init 142 = .ok (.newarray .int, 2) := by decide +kernel
theorem dX10_init_144 : decode cX10_init 144 = .ok (.putfield 62, 3) := by decide +kernel
theorem dX10_init_147 : decode cX10_init 147 = .ok (.aload_n 0, 1) := by decide +kernel
theorem dX10_init_148 : decode cX10_init 148 = .ok (.sipush 2304, 3) := by decide +kernel
theorem dX10_init_151 : decode cX10_init 151 = .ok (.newarray .int, 2) := by decide +kernel
theorem dX10_init_153 : decode cX10_init 153 = .ok (.putfield 65, 3) := by decide +kernel
theorem dX10_init_156 : decode cX10_init 156 = .ok (.aload_n 0, 1) := by decide +kernel
theorem dX10_init_157 : decode cX10_init 157 = .ok (.bipush 8, 2) := by decide +kernel
theorem dX10_init_159 : decode cX10_init 159 = .ok (.newarray .int, 2) := by decide +kernel
theorem dX10_init_16 : decode cX10_init 16 = .ok (.newarray .int, 2) := by decide +kernel
theorem dX10_init_161 : decode cX10_init 161 = .ok (.putfield 68, 3) := by decide +kernel
theorem dX10_init_164 : decode cX10_init 164 = .ok (.aload_n 0, 1) := by decide +kernel
theorem dX10_init_165 : decode cX10_init 165 = .ok (.bipush 8, 2) := by decide +kernel
theorem dX10_init_167 : decode cX10_init 167 = .ok (.newarray .int, 2) := by decide +kernel
theorem dX10_init_169 : decode cX10_init 169 = .ok (.putfield 71, 3) := by decide +kernel
theorem dX10_init_172 : decode cX10_init 172 = .ok (.aload_n 0, 1) := by decide +kernel
theorem dX10_init_173 : decode cX10_init 173 = .ok (.sipush 256, 3) := by decide +kernel
theorem dX10_init_176 : decode cX10_init 176 = .ok (.newarray .int, 2) := by decide +kernel
theorem dX10_init_178 : decode cX10_init 178 = .ok (.putfield 74, 3) := by decide +kernel
theorem dX10_init_18 : decode cX10_init 18 = .ok (.putfield 13, 3) := by decide +kernel
theorem dX10_init_181 : decode cX10_init 181 = .ok (.return_, 1) := by decide +kernel
theorem dX10_init_21 : decode cX10_init 21 = .ok (.aload_n 0, 1) := by decide +kernel
theorem dX10_init_22 : decode cX10_init 22 = .ok (.iconst 4, 1) := by decide +kernel
theorem dX10_init_23 : decode cX10_init 23 = .ok (.newarray .int, 2) := by decide +kernel
theorem dX10_init_25 : decode cX10_init 25 = .ok (.putfield 16, 3) := by decide +kernel
theorem dX10_init_28 : decode cX10_init 28 = .ok (.aload_n 0, 1) := by decide +kernel
theorem dX10_init_29 : decode cX10_init 29 = .ok (.iconst 4, 1) := by decide +kernel
theorem dX10_init_30 : decode cX10_init 30 = .ok (.newarray .int, 2) := by decide +kernel
theorem dX10_init_32 : decode cX10_init 32 = .ok (.putfield 19, 3) := by decide +kernel
theorem dX10_init_35 : decode cX10_init 35 = .ok (.aload_n 0, 1) := by decide +kernel
theorem dX10_init_36 : decode cX10_init 36 = .ok (.bipush 8, 2) := by decide +kernel
theorem dX10_init_38 : decode cX10_init 38 = .ok (.newarray .int, 2) := by decide +kernel
theorem dX10_init_4 : decode cX10_init 4 = .ok (.aload_n 0, 1) := by decide +kernel
theorem dX10_init_40 : decode cX10_init 40 = .ok (.putfield 22, 3) := by decide +kernel
theorem dX10_init_43 : decode cX10_init 43 = .ok (.aload_n 0, 1) := by decide +kernel
theorem dX10_init_44 : decode cX10_init 44 = .ok (.bipush 8, 2) := by decide +kernel
theorem dX10_init_46 : decode cX10_init 46 = .ok (.newarray .int, 2) := by decide +kernel
theorem dX10_init_48 : decode cX10_init 48 = .ok (.putfield 25, 3) := by decide +kernel
theorem dX10_init_5 : decode cX10_init 5 = .ok (.bipush 80, 2) := by decide +kernel
theorem dX10_init_51 : decode cX10_init 51 = .ok (.aload_n 0, 1) := by decide +kernel
theorem dX10_init_52 : decode cX10_init 52 = .ok (.bipush 8, 2) := by decide +kernel
theorem dX10_init_54 : decode cX10_init 54 = .ok (.newarray .int, 2) := by decide +kernel
theorem dX10_init_56 : decode cX10_init 56 = .ok (.putfield 28, 3) := by decide +kernel
theorem dX10_init_59 : decode cX10_init 59 = .ok (.aload_n 0, 1) := by decide +kernel
theorem dX10_init_60 : decode cX10_init 60 = .ok (.bipush 6, 2) := by decide +kernel
theorem dX10_init_62 : decode cX10_init 62 = .ok (.newarray .int, 2) := by decide +kernel
theorem dX10_init_64 : decode cX10_init 64 = .ok (.putfield 31, 3) := by decide +kernel
theorem dX10_init_67 : decode cX10_init 67 = .ok (.aload_n 0, 1) := by decide +kernel
theorem dX10_init_68 : decode cX10_init 68 = .ok (.bipush 6, 2) := by decide +kernel
theorem dX10_init_7 : decode cX10_init 7 = .ok (.newarray .int, 2) := by decide +kernel
theorem dX10_init_70 : decode cX10_init 70 = .ok (.newarray .int, 2) := by decide +kernel
theorem dX10_init_72 : decode cX10_init 72 = .ok (.putfield 34, 3) := by decide +kernel
theorem dX10_init_75 : decode cX10_init 75 = .ok (.aload_n 0, 1) := by decide +kernel
theorem dX10_init_76 : decode cX10_init 76 = .ok (.bipush 8, 2) := by decide +kernel
theorem dX10_init_78 : decode cX10_init 78 = .ok (.newarray .int, 2) := by decide +kernel
theorem dX10_init_80 : decode cX10_init 80 = .ok (.putfield 37, 3) := by decide +kernel
theorem dX10_init_83 : decode cX10_init 83 = .ok (.aload_n 0, 1) := by decide +kernel
theorem dX10_init_84 : decode cX10_init 84 = .ok (.sipush 400, 3) := by decide +kernel
theorem dX10_init_87 : decode cX10_init 87 = .ok (.newarray .int, 2) := by decide +kernel
theorem dX10_init_89 : decode cX10_init 89 = .ok (.putfield 40, 3) := by decide +kernel
theorem dX10_init_9 : decode cX10_init 9 = .ok (.putfield 7, 3) := by decide +kernel
theorem dX10_init_92 : decode cX10_init 92 = .ok (.aload_n 0, 1) := by decide +kernel
theorem dX10_init_93 : decode cX10_init 93 = .ok (.iconst (-1), 1) := by decide +kernel
theorem dX10_init_94 : decode cX10_init 94 = .ok (.putfield 43, 3) := by decide +kernel
theorem dX10_init_97 : decode cX10_init 97 = .ok (.aload_n 0, 1) := by decide +kernel
theorem dX10_init_98 : decode cX10_init 98 = .ok (.bipush 64, 2) := by decide +kernel
theorem dX1_init_0 : decode cX1_init 0 = .ok (.aload_n 0, 1) := by decide +kernel
theorem dX1_init_1 : decode cX1_init 1 = .ok (.invokespecial 3, 3) := by decide +kernel
theorem dX1_init_10 : decode cX1_init 10 = .ok (.putfield 9, 3) := by decide +kernel
theorem dX1_init_13 : decode cX1_init 13 = .ok (.aload_n 0, 1) := by decide +kernel
theorem dX1_init_14 : decode cX1_init 14 = .ok (.aload_n 1, 1) := by decide +kernel
theorem dX1_init_15 : decode cX1_init 15 = .ok (.putfield 15, 3) := by decide +kernel
theorem dX1_init_18 : decode cX1_init 18 = .ok (.aload_n 0, 1) := by decide +kernel
theorem dX1_init_19 : decode cX1_init 19 = .ok (.aload_n 2, 1) := by decide +kernel
theorem dX1_init_20 : decode cX1_init 20 = .ok (.putfield 19, 3) := by decide +kernel
theorem dX1_init_23 : decode cX1_init 23 = .ok (.return_, 1) := by decide +kernel
theorem dX1_init_4 : decode cX1_init 4 = .ok (.aload_n 0, 1) := by decide +kernel
theorem dX1_init_5 : decode cX1_init 5 = .ok (.sipush 1440, 3) := by decide +kernel
theorem dX1_init_8 : decode cX1_init 8 = .ok (.newarray .boolean, 2) := by decide +kernel
theorem dX2_init_0 : decode cX2_init 0 = .ok (.aload_n 0, 1) := by decide +kernel
theorem dX2_init_1 : decode cX2_init 1 = .ok (.invokespecial 3, 3) := by decide +kernel
theorem dX2_init_10 : decode cX2_init 10 = .ok (.aload_n 2, 1) := by decide +kernel
theorem dX2_init_11 : decode cX2_init 11 = .ok (.putfield 15, 3) := by decide +kernel
theorem dX2_init_14 : decode cX2_init 14 = .ok (.return_, 1) := by decide +kernel
theorem dX2_init_4 : decode cX2_init 4 = .ok (.aload_n 0, 1) := by decide +kernel
theorem dX2_init_5 : decode cX2_init 5 = .ok (.aload_n 1, 1) := by decide +kernel
theorem dX2_init_6 : decode cX2_init 6 = .ok (.putfield 9, 3) := by decide +kernel
theorem dX2_init_9 : decode cX2_init 9 = .ok (.aload_n 0, 1) := by decide +kernel
theorem dX3_init_0 : decode cX3_init 0 = .ok (.aload_n 0, 1) := by decide +kernel
theorem dX3_init_1 : decode cX3_init 1 = .ok (.invokespecial 1, 3) := by decide +kernel
theorem dX3_init_12 : decode cX3_init 12 = .ok (.aload_n 0, 1) := by decide +kernel
theorem dX3_init_13 : decode cX3_init 13 = .ok (.bipush 12, 2) := by decide +kernel
theorem dX3_init_15 : decode cX3_init 15 = .ok (.anewarray 13, 3) := by decide +kernel
theorem dX3_init_18 : decode cX3_init 18 = .ok (.putfield 15, 3) := by decide +kernel
theorem dX3_init_21 : decode cX3_init 21 = .ok (.iconst 0, 1) := by decide +kernel
theorem dX3_init_22 : decode cX3_init 22 = .ok (.istore_n 1, 1) := by decide +kernel
theorem dX3_init_23 : decode cX3_init 23 = .ok (.iload_n 1, 1) := by decide +kernel
theorem dX3_init_24 : decode cX3_init 24 = .ok (.bipush 12, 2) := by decide +kernel
theorem dX3_init_26 : decode cX3_init 26 = .ok (.if_icmp .ge 22, 3) := by decide +kernel
theorem dX3_init_29 : decode cX3_init 29 = .ok (.aload_n 0, 1) := by decide +kernel
theorem dX3_init_30 : decode cX3_init 30 = .ok (.getfield 15, 3) := by decide +kernel
theorem dX3_init_33 : decode cX3_init 33 = .ok (.iload_n 1, 1) := by decide +kernel
theorem dX3_init_34 : decode cX3_init 34 = .ok (.new 13, 3) := by decide +kernel
theorem dX3_init_37 : decode cX3_init 37 = .ok (.dup, 1) := by decide +kernel
theorem dX3_init_38 : decode cX3_init 38 = .ok (.invokespecial 19, 3) := by decide +kernel
theorem dX3_init_4 : decode cX3_init 4 = .ok (.aload_n 0, 1) := by decide +kernel
theorem dX3_init_41 : decode cX3_init 41 = .ok (.aastore, 1) := by decide +kernel
theorem dX3_init_42 : decode cX3_init 42 = .ok (.iinc 1 1, 3) := by decide +kernel
theorem dX3_init_45 : decode cX3_init 45 = .ok (.goto (-22), 3) := by decide +kernel
theorem dX3_init_48 : decode cX3_init 48 = .ok (.return_, 1) := by decide +kernel
theorem dX3_init_5 : decode cX3_init 5 = .ok (.bipush 12, 2) := by decide +kernel
theorem dX3_init_7 : decode cX3_init 7 = .ok (.newarray .int, 2) := by decide +kernel
theorem dX3_init_9 : decode cX3_init 9 = .ok (.putfield 9, 3) := by decide +kernel
theorem dX4_init_0 : decode cX4_init 0 = .ok (.aload_n 0, 1) := by decide +kernel
theorem dX4_init_1 : decode cX4_init 1 = .ok (.invokespecial 3, 3) := by decide +kernel
theorem dX4_init_10 : decode cX4_init 10 = .ok (.putfield 11, 3) := by decide +kernel
theorem dX4_init_13 : decode cX4_init 13 = .ok (.aload_n 0, 1) := by decide +kernel
theorem dX4_init_14 : decode cX4_init 14 = .ok (.sipush 6561, 3) := by decide +kernel
theorem dX4_init_17 : decode cX4_init 17 = .ok (.newarray .int, 2) := by decide +kernel
theorem dX4_init_19 : decode cX4_init 19 = .ok (.putfield 15, 3) := by decide +kernel
theorem dX4_init_22 : decode cX4_init 22 = .ok (.aload_n 0, 1) := by decide +kernel
theorem dX4_init_23 : decode cX4_init 23 = .ok (.bipush 8, 2) := by decide +kernel
theorem dX4_init_25 : decode cX4_init 25 = .ok (.newarray .int, 2) := by decide +kernel
theorem dX4_init_27 : decode cX4_init 27 = .ok (.putfield 18, 3) := by decide +kernel
theorem dX4_init_30 : decode cX4_init 30 = .ok (.aload_n 0, 1) := by decide +kernel
theorem dX4_init_31 : decode cX4_init 31 = .ok (.bipush 8, 2) := by decide +kernel
theorem dX4_init_33 : decode cX4_init 33 = .ok (.newarray .int, 2) := by decide +kernel
theorem dX4_init_35 : decode cX4_init 35 = .ok (.putfield 21, 3) := by decide +kernel
theorem dX4_init_38 : decode cX4_init 38 = .ok (.aload_n 0, 1) := by decide +kernel
theorem dX4_init_39 : decode cX4_init 39 = .ok (.iconst 4, 1) := by decide +kernel
theorem dX4_init_4 : decode cX4_init 4 = .ok (.aload_n 0, 1) := by decide +kernel
theorem dX4_init_40 : decode cX4_init 40 = .ok (.newarray .int, 2) := by decide +kernel
theorem dX4_init_42 : decode cX4_init 42 = .ok (.putfield 24, 3) := by decide +kernel
theorem dX4_init_45 : decode cX4_init 45 = .ok (.aload_n 0, 1) := by decide +kernel
theorem dX4_init_46 : decode cX4_init 46 = .ok (.aload_n 1, 1) := by decide +kernel
theorem dX4_init_47 : decode cX4_init 47 = .ok (.putfield 27, 3) := by decide +kernel
theorem dX4_init_5 : decode cX4_init 5 = .ok (.sipush 6561, 3) := by decide +kernel
theorem dX4_init_50 : decode cX4_init 50 = .ok (.aload_n 0, 1) := by decide +kernel
theorem dX4_init_51 : decode cX4_init 51 = .ok (.aload_n 2, 1) := by decide +kernel
theorem dX4_init_52 : decode cX4_init 52 = .ok (.putfield 31, 3) := by decide +kernel
theorem dX4_init_55 : decode cX4_init 55 = .ok (.return_, 1) := by decide +kernel
theorem dX4_init_8 : decode cX4_init 8 = .ok (.newarray .int, 2) := by decide +kernel
theorem dX5_init_0 : decode cX5_init 0 = .ok (.aload_n 0, 1) := by decide +kernel
theorem dX5_init_1 : decode cX5_init 1 = .ok (.invokespecial 5, 3) := by decide +kernel
theorem dX5_init_10 : decode cX5_init 10 = .ok (.putfield 11, 3) := by decide +kernel
theorem dX5_init_13 : decode cX5_init 13 = .ok (.aload_n 0, 1) := by decide +kernel
theorem dX5_init_14 : decode cX5_init 14 = .ok (.sipush 256, 3) := by decide +kernel
theorem dX5_init_17 : decode cX5_init 17 = .ok (.newarray .int, 2) := by decide +kernel
theorem dX5_init_19 : decode cX5_init 19 = .ok (.putfield 15, 3) := by decide +kernel
theorem dX5_init_22 : decode cX5_init 22 = .ok (.aload_n 0, 1) := by decide +kernel
theorem dX5_init_23 : decode cX5_init 23 = .ok (.sipush 256, 3) := by decide +kernel
theorem dX5_init_26 : decode cX5_init 26 = .ok (.newarray .int, 2) := by decide +kernel
theorem dX5_init_28 : decode cX5_init 28 = .ok (.putfield 18, 3) := by decide +kernel
theorem dX5_init_31 : decode cX5_init 31 = .ok (.aload_n 0, 1) := by decide +kernel
theorem dX5_init_32 : decode cX5_init 32 = .ok (.aload_n 1, 1) := by decide +kernel
theorem dX5_init_33 : decode cX5_init 33 = .ok (.putfield 21, 3) := by decide +kernel
theorem dX5_init_36 : decode cX5_init 36 = .ok (.aload_n 0, 1) := by decide +kernel
theorem dX5_init_37 : decode cX5_init 37 = .ok (.aload_n 2, 1) := by decide +kernel
theorem dX5_init_38 : decode cX5_init 38 = .ok (.putfield 25, 3) := by decide +kernel
theorem dX5_init_4 : decode cX5_init 4 = .ok (.aload_n 0, 1) := by decide +kernel
theorem dX5_init_41 : decode cX5_init 41 = .ok (.return_, 1) := by decide +kernel
theorem dX5_init_5 : decode cX5_init 5 = .ok (.sipush 256, 3) := by decide +kernel
theorem dX5_init_8 : decode cX5_init 8 = .ok (.newarray .int, 2) := by decide +kernel
theorem dX6_init_0 : decode cX6_init 0 = .ok (.aload_n 0, 1) := by decide +kernel
theorem dX6_init_1 : decode cX6_init 1 = .ok (.invokespecial 3, 3) := by decide +kernel
theorem dX6_init_10 : decode cX6_init 10 = .ok (.putfield 9, 3) := by decide +kernel
theorem dX6_init_13 : decode cX6_init 13 = .ok (.aload_n 0, 1) := by decide +kernel
theorem dX6_init_14 : decode cX6_init 14 = .ok (.sipush 1000, 3) := by decide +kernel
theorem dX6_init_17 : decode cX6_init 17 = .ok (.newarray .int, 2) := by decide +kernel
theorem dX6_init_19 : decode cX6_init 19 = .ok (.putfield 15, 3) := by decide +kernel
theorem dX6_init_22 : decode cX6_init 22 = .ok (.aload_n 0, 1) := by decide +kernel
theorem dX6_init_23 : decode cX6_init 23 = .ok (.bipush 8, 2) := by decide +kernel
theorem dX6_init_25 : decode cX6_init 25 = .ok (.newarray .int, 2) := by decide +kernel
theorem dX6_init_27 : decode cX6_init 27 = .ok (.putfield 18, 3) := by decide +kernel
theorem dX6_init_30 : decode cX6_init 30 = .ok (.aload_n 0, 1) := by decide +kernel
theorem dX6_init_31 : decode cX6_init 31 = .ok (.aload_n 1, 1) := by decide +kernel
theorem dX6_init_32 : decode cX6_init 32 = .ok (.putfield 21, 3) := by decide +kernel
theorem dX6_init_35 : decode cX6_init 35 = .ok (.aload_n 0, 1) := by decide +kernel
theorem dX6_init_36 : decode cX6_init 36 = .ok (.aload_n 2, 1) := by decide +kernel
theorem dX6_init_37 : decode cX6_init 37 = .ok (.putfield 25, 3) := by decide +kernel
theorem dX6_init_4 : decode cX6_init 4 = .ok (.aload_n 0, 1) := by decide +kernel
theorem dX6_init_40 : decode cX6_init 40 = .ok (.return_, 1) := by decide +kernel
theorem dX6_init_5 : decode cX6_init 5 = .ok (.sipush 1000, 3) := by decide +kernel
theorem dX6_init_8 : decode cX6_init 8 = .ok (.newarray .int, 2) := by decide +kernel
theorem dX7_init_0 : decode cX7_init 0 = .ok (.aload_n 0, 1) := by decide +kernel
theorem dX7_init_1 : decode cX7_init 1 = .ok (.invokespecial 3, 3) := by decide +kernel
theorem dX7_init_11 : decode cX7_init 11 = .ok (.aload_n 0, 1) := by decide +kernel
theorem dX7_init_12 : decode cX7_init 12 = .ok (.iconst 4, 1) := by decide +kernel
theorem dX7_init_13 : decode cX7_init 13 = .ok (.newarray .int, 2) := by decide +kernel
theorem dX7_init_15 : decode cX7_init 15 = .ok (.putfield 15, 3) := by decide +kernel
theorem dX7_init_18 : decode cX7_init 18 = .ok (.aload_n 0, 1) := by decide +kernel
theorem dX7_init_19 : decode cX7_init 19 = .ok (.bipush 8, 2) := by decide +kernel
theorem dX7_init_21 : decode cX7_init 21 = .ok (.newarray .int, 2) := by decide +kernel
theorem dX7_init_23 : decode cX7_init 23 = .ok (.putfield 18, 3) := by decide +kernel
theorem dX7_init_26 : decode cX7_init 26 = .ok (.aload_n 0, 1) := by decide +kernel
theorem dX7_init_27 : decode cX7_init 27 = .ok (.bipush 8, 2) := by decide +kernel
theorem dX7_init_29 : decode cX7_init 29 = .ok (.newarray .int, 2) := by decide +kernel
theorem dX7_init_31 : decode cX7_init 31 = .ok (.putfield 21, 3) := by decide +kernel
theorem dX7_init_34 : decode cX7_init 34 = .ok (.aload_n 0, 1) := by decide +kernel
theorem dX7_init_35 : decode cX7_init 35 = .ok (.bipush 8, 2) := by decide +kernel
theorem dX7_init_37 : decode cX7_init 37 = .ok (.newarray .int, 2) := by decide +kernel
theorem dX7_init_39 : decode cX7_init 39 = .ok (.putfield 24, 3) := by decide +kernel
theorem dX7_init_4 : decode cX7_init 4 = .ok (.aload_n 0, 1) := by decide +kernel
theorem dX7_init_42 : decode cX7_init 42 = .ok (.aload_n 0, 1) := by decide +kernel
theorem dX7_init_43 : decode cX7_init 43 = .ok (.bipush 6, 2) := by decide +kernel
theorem dX7_init_45 : decode cX7_init 45 = .ok (.newarray .int, 2) := by decide +kernel
theorem dX7_init_47 : decode cX7_init 47 = .ok (.putfield 27, 3) := by decide +kernel
theorem dX7_init_5 : decode cX7_init 5 = .ok (.iconst 4, 1) := by decide +kernel
theorem dX7_init_50 : decode cX7_init 50 = .ok (.aload_n 0, 1) := by decide +kernel
theorem dX7_init_51 : decode cX7_init 51 = .ok (.bipush 6, 2) := by decide +kernel
theorem dX7_init_53 : decode cX7_init 53 = .ok (.newarray .int, 2) := by decide +kernel
theorem dX7_init_55 : decode cX7_init 55 = .ok (.putfield 30, 3) := by decide +kernel
theorem dX7_init_58 : decode cX7_init 58 = .ok (.aload_n 0, 1) := by decide +kernel
theorem dX7_init_59 : decode cX7_init 59 = .ok (.bipush 8, 2) := by decide +kernel
theorem dX7_init_6 : decode cX7_init 6 = .ok (.newarray .int, 2) := by decide +kernel
theorem dX7_init_61 : decode cX7_init 61 = .ok (.newarray .int, 2) := by decide +kernel
theorem dX7_init_63 : decode cX7_init 63 = .ok (.putfield 33, 3) := by decide +kernel
theorem dX7_init_66 : decode cX7_init 66 = .ok (.return_, 1) := by decide +kernel
theorem dX7_init_8 : decode cX7_init 8 = .ok (.putfield 9, 3) := by decide +kernel
theorem dX8_init_0 : decode cX8_init 0 = .ok (.aload_n 0, 1) := by decide +kernel
theorem dX8_init_1 : decode cX8_init 1 = .ok (.invokespecial 3, 3) := by decide +kernel
theorem dX8_init_10 : decode cX8_init 10 = .ok (.putfield 9, 3) := by decide +kernel
theorem dX8_init_13 : decode cX8_init 13 = .ok (.aload_n 0, 1) := by decide +kernel
theorem dX8_init_14 : decode cX8_init 14 = .ok (.iconst 3, 1) := by decide +kernel
theorem dX8_init_15 : decode cX8_init 15 = .ok (.newarray .int, 2) := by decide +kernel
theorem dX8_init_17 : decode cX8_init 17 = .ok (.putfield 15, 3) := by decide +kernel
theorem dX8_init_20 : decode cX8_init 20 = .ok (.aload_n 0, 1) := by decide +kernel
theorem dX8_init_21 : decode cX8_init 21 = .ok (.iconst (-1), 1) := by decide +kernel
theorem dX8_init_22 : decode cX8_init 22 = .ok (.putfield 19, 3) := by decide +kernel
theorem dX8_init_25 : decode cX8_init 25 = .ok (.return_, 1) := by decide +kernel
theorem dX8_init_4 : decode cX8_init 4 = .ok (.aload_n 0, 1) := by decide +kernel
theorem dX8_init_5 : decode cX8_init 5 = .ok (.sipush 400, 3) := by decide +kernel
theorem dX8_init_8 : decode cX8_init 8 = .ok (.newarray .byte, 2) := by decide +kernel
theorem dX9_init_0 : decode cX9_init 0 = .ok (.aload_n 0, 1) := by decide +kernel
theorem dX9_init_1 : decode cX9_init 1 = .ok (.invokespecial 1, 3) := by decide +kernel
theorem dX9_init_101 : decode cX9_init 101 = .ok (.aload_n 0, 1) := by decide +kernel
theorem dX9_init_102 : decode cX9_init 102 = .ok (.getfield 28, 3) := by decide +kernel
theorem dX9_init_105 : decode cX9_init 105 = .ok (.invokespecial 44, 3) := by decide +kernel
theorem dX9_init_108 : decode cX9_init 108 = .ok (.putfield 45, 3) := by decide +kernel
theorem dX9_init_111 : decode cX9_init 111 = .ok (.aload_n 0, 1) := by decide +kernel
theorem dX9_init_112 : decode cX9_init 112 = .ok (.new 49, 3) := by decide +kernel
theorem dX9_init_115 : decode cX9_init 115 = .ok (.dup, 1) := by decide +kernel
theorem dX9_init_116 : decode cX9_init 116 = .ok (.aload_n 0, 1) := by decide +kernel
theorem dX9_init_117 : decode cX9_init 117 = .ok (.getfield 19, 3) := by decide +kernel
theorem dX9_init_12 : decode cX9_init 12 = .ok (.putfield 10, 3) := by decide +kernel
theorem dX9_init_120 : decode cX9_init 120 = .ok (.aload_n 0, 1) := by decide +kernel
theorem dX9_init_121 : decode cX9_init 121 = .ok (.getfield 28, 3) := by decide +kernel
theorem dX9_init_124 : decode cX9_init 124 = .ok (.invokespecial 51, 3) := by decide +kernel
theorem dX9_init_127 : decode cX9_init 127 = .ok (.putfield 52, 3) := by decide +kernel
theorem dX9_init_130 : decode cX9_init 130 = .ok (.aload_n 0, 1) := by decide +kernel
theorem dX9_init_131 : decode cX9_init 131 = .ok (.new 56, 3) := by decide +kernel
theorem dX9_init_134 : decode cX9_init 134 = .ok (.dup, 1) := by decide +kernel
theorem dX9_init_135 : decode cX9_init 135 = .ok (.aload_n 0, 1) := by decide +kernel
theorem dX9_init_136 : decode cX9_init 136 = .ok (.getfield 19, 3) := by decide +kernel
theorem dX9_init_139 : decode cX9_init 139 = .ok (.aload_n 0, 1) := by decide +kernel
theorem dX9_init_140 : decode cX9_init 140 = .ok (.getfield 28, 3) := by decide +kernel
theorem dX9_init_143 : decode cX9_init 143 = .ok (.invokespecial 58, 3) := by decide +kernel
theorem dX9_init_146 : decode cX9_init 146 = .ok (.putfield 59, 3) := by decide +kernel
theorem dX9_init_149 : decode cX9_init 149 = .ok (.aload_n 0, 1) := by decide +kernel
theorem dX9_init_15 : decode cX9_init 15 = .ok (.aload_n 0, 1) := by decide +kernel
theorem dX9_init_150 : decode cX9_init 150 = .ok (.new 63, 3) := by decide +kernel
theorem dX9_init_153 : decode cX9_init 153 = .ok (.dup, 1) := by decide +kernel
theorem dX9_init_154 : decode cX9_init 154 = .ok (.aload_n 0, 1) := by decide +kernel
theorem dX9_init_155 : decode cX9_init 155 = .ok (.getfield 19, 3) := by decide +kernel
theorem dX9_init_158 : decode cX9_init 158 = .ok (.aload_n 0, 1) := by decide +kernel
theorem dX9_init_159 : decode cX9_init 159 = .ok (.getfield 28, 3) := by decide +kernel
theorem dX9_init_16 : decode cX9_init 16 = .ok (.new 16, 3) := by decide +kernel
theorem dX9_init_162 : decode cX9_init 162 = .ok (.invokespecial 65, 3) := by decide +kernel
theorem dX9_init_165 : decode cX9_init 165 = .ok (.putfield 66, 3) := by decide +kernel
theorem dX9_init_168 : decode cX9_init 168 = .ok (.aload_n 0, 1) := by decide +kernel
theorem dX9_init_169 : decode cX9_init 169 = .ok (.new 70, 3) := by decide +kernel
theorem dX9_init_172 : decode cX9_init 172 = .ok (.dup, 1) := by decide +kernel
theorem dX9_init_173 : decode cX9_init 173 = .ok (.invokespecial 72, 3) := by decide +kernel
theorem dX9_init_176 : decode cX9_init 176 = .ok (.putfield 73, 3) := by decide +kernel
theorem dX9_init_179 : decode cX9_init 179 = .ok (.aload_n 0, 1) := by decide +kernel
theorem dX9_init_180 : decode cX9_init 180 = .ok (.iconst 0, 1) := by decide +kernel
theorem dX9_init_181 : decode cX9_init 181 = .ok (.putfield 77, 3) := by decide +kernel
theorem dX9_init_184 : decode cX9_init 184 = .ok (.return_, 1) := by decide +kernel
theorem dX9_init_19 : decode cX9_init 19 = .ok (.dup, 1) := by decide +kernel
theorem dX9_init_20 : decode cX9_init 20 = .ok (.invokespecial 18, 3) := by decide +kernel
theorem dX9_init_23 : decode cX9_init 23 = .ok (.putfield 19, 3) := by decide +kernel
theorem dX9_init_26 : decode cX9_init 26 = .ok (.aload_n 0, 1) := by decide +kernel
theorem dX9_init_27 : decode cX9_init 27 = .ok (.new 16, 3) := by decide +kernel
theorem dX9_init_30 : decode cX9_init 30 = .ok (.dup, 1) := by decide +kernel
theorem dX9_init_31 : decode cX9_init 31 = .ok (.invokespecial 18, 3) := by decide +kernel
theorem dX9_init_34 : decode cX9_init 34 = .ok (.putfield 23, 3) := by decide +kernel
theorem dX9_init_37 : decode cX9_init 37 = .ok (.aload_n 0, 1) := by decide +kernel
theorem dX9_init_38 : decode cX9_init 38 = .ok (.bipush 8, 2) := by decide +kernel
theorem dX9_init_4 : decode cX9_init 4 = .ok (.aload_n 0, 1) := by decide +kernel
theorem dX9_init_40 : decode cX9_init 40 = .ok (.anewarray 26, 3) := by decide +kernel
theorem dX9_init_43 : decode cX9_init 43 = .ok (.putfield 28, 3) := by decide +kernel
theorem dX9_init_46 : decode cX9_init 46 = .ok (.iconst 0, 1) := by decide +kernel
theorem dX9_init_47 : decode cX9_init 47 = .ok (.istore_n 1, 1) := by decide +kernel
theorem dX9_init_48 : decode cX9_init 48 = .ok (.iload_n 1, 1) := by decide +kernel
theorem dX9_init_49 : decode cX9_init 49 = .ok (.bipush 8, 2) := by decide +kernel
theorem dX9_init_5 : decode cX9_init 5 = .ok (.new 7, 3) := by decide +kernel
theorem dX9_init_51 : decode cX9_init 51 = .ok (.if_icmp .ge 22, 3) := by decide +kernel
theorem dX9_init_54 : decode cX9_init 54 = .ok (.aload_n 0, 1) := by decide +kernel
theorem dX9_init_55 : decode cX9_init 55 = .ok (.getfield 28, 3) := by decide +kernel
theorem dX9_init_58 : decode cX9_init 58 = .ok (.iload_n 1, 1) := by decide +kernel
theorem dX9_init_59 : decode cX9_init 59 = .ok (.new 26, 3) := by decide +kernel
theorem dX9_init_62 : decode cX9_init 62 = .ok (.dup, 1) := by decide +kernel
theorem dX9_init_63 : decode cX9_init 63 = .ok (.invokespecial 32, 3) := by decide +kernel
theorem dX9_init_66 : decode cX9_init 66 = .ok (.aastore, 1) := by decide +kernel
theorem dX9_init_67 : decode cX9_init 67 = .ok (.iinc 1 1, 3) := by decide +kernel
theorem dX9_init_70 : decode cX9_init 70 = .ok (.goto (-22), 3) := by decide +kernel
theorem dX9_init_73 : decode cX9_init 73 = .ok (.aload_n 0, 1) := by decide +kernel
theorem dX9_init_74 : decode cX9_init 74 = .ok (.new 33, 3) := by decide +kernel
theorem dX9_init_77 : decode cX9_init 77 = .ok (.dup, 1) := by decide +kernel
theorem dX9_init_78 : decode cX9_init 78 = .ok (.aload_n 0, 1) := by decide +kernel
theorem dX9_init_79 : decode cX9_init 79 = .ok (.getfield 19, 3) := by decide +kernel
theorem dX9_init_8 : decode cX9_init 8 = .ok (.dup, 1) := by decide +kernel
theorem dX9_init_82 : decode cX9_init 82 = .ok (.aload_n 0, 1) := by decide +kernel
theorem dX9_init_83 : decode cX9_init 83 = .ok (.getfield 28, 3) := by decide +kernel
theorem dX9_init_86 : decode cX9_init 86 = .ok (.invokespecial 35, 3) := by decide +kernel
theorem dX9_init_89 : decode cX9_init 89 = .ok (.putfield 38, 3) := by decide +kernel
theorem dX9_init_9 : decode cX9_init 9 = .ok (.invokespecial 9, 3) := by decide +kernel
theorem dX9_init_92 : decode cX9_init 92 = .ok (.aload_n 0, 1) := by decide +kernel
theorem dX9_init_93 : decode cX9_init 93 = .ok (.new 42, 3) := by decide +kernel
theorem dX9_init_96 : decode cX9_init 96 = .ok (.dup, 1) := by decide +kernel
theorem dX9_init_97 : decode cX9_init 97 = .ok (.aload_n 0, 1) := by decide +kernel
theorem dX9_init_98 : decode cX9_init 98 = .ok (.getfield 19, 3) := by decide +kernel
theorem cal_X0_init : Cal M_X0_init := ⟨rfl, gw_247, gw_111, ⟨by decide, by decide⟩⟩
theorem cii_X0_init : Cond.instanceMethod (mY M_X0_init) ∈ gt := gw_246
theorem cnt_X0_init : Cnt M_X0_init 0 := by unfold Cnt; decide +kernel
theorem cal_X10_init : Cal M_X10_init := ⟨rfl, gw_1431, gw_118, ⟨by decide, by decide⟩⟩
theorem cii_X10_init : Cond.instanceMethod (mY M_X10_init) ∈ gt := gw_1430
theorem cnt_X10_init : Cnt M_X10_init 0 := by unfold Cnt; decide +kernel
theorem cal_X1_init : Cal M_X1_init := ⟨rfl, gw_368, gw_115, ⟨by decide, by decide⟩⟩
theorem cii_X1_init : Cond.instanceMethod (mY M_X1_init) ∈ gt := gw_367
theorem cnt_X1_init : Cnt M_X1_init 2 := by unfold Cnt; decide +kernel
theorem cal_X2_init : Cal M_X2_init := ⟨rfl, gw_299, gw_112, ⟨by decide, by decide⟩⟩
theorem cii_X2_init : Cond.instanceMethod (mY M_X2_init) ∈ gt := gw_298
theorem cnt_X2_init : Cnt M_X2_init 2 := by unfold Cnt; decide +kernel
theorem cal_X3_init : Cal M_X3_init := ⟨rfl, gw_411, gw_117, ⟨by decide, by decide⟩⟩
theorem cii_X3_init : Cond.instanceMethod (mY M_X3_init) ∈ gt := gw_410
theorem cnt_X3_init : Cnt M_X3_init 0 := by unfold Cnt; decide +kernel
theorem cal_X4_init : Cal M_X4_init := ⟨rfl, gw_312, gw_113, ⟨by decide, by decide⟩⟩
theorem cii_X4_init : Cond.instanceMethod (mY M_X4_init) ∈ gt := gw_311
theorem cnt_X4_init : Cnt M_X4_init 2 := by unfold Cnt; decide +kernel
theorem cal_X5_init : Cal M_X5_init := ⟨rfl, gw_386, gw_116, ⟨by decide, by decide⟩⟩
theorem cii_X5_init : Cond.instanceMethod (mY M_X5_init) ∈ gt := gw_385
theorem cnt_X5_init : Cnt M_X5_init 2 := by unfold Cnt; decide +kernel
theorem cal_X6_init : Cal M_X6_init := ⟨rfl, gw_346, gw_114, ⟨by decide, by decide⟩⟩
theorem cii_X6_init : Cond.instanceMethod (mY M_X6_init) ∈ gt := gw_345
theorem cnt_X6_init : Cnt M_X6_init 2 := by unfold Cnt; decide +kernel
theorem cal_X7_init : Cal M_X7_init := ⟨rfl, gw_182, gw_110, ⟨by decide, by decide⟩⟩
theorem cii_X7_init : Cond.instanceMethod (mY M_X7_init) ∈ gt := gw_181
theorem cnt_X7_init : Cnt M_X7_init 0 := by unfold Cnt; decide +kernel
theorem cal_X8_init : Cal M_X8_init := ⟨rfl, gw_144, gw_109, ⟨by decide, by decide⟩⟩
theorem cii_X8_init : Cond.instanceMethod (mY M_X8_init) ∈ gt := gw_143
theorem cnt_X8_init : Cnt M_X8_init 0 := by unfold Cnt; decide +kernel
theorem cal_X9_init : Cal M_X9_init := ⟨rfl, gw_136, gw_108, ⟨by decide, by decide⟩⟩
theorem cii_X9_init : Cond.instanceMethod (mY M_X9_init) ∈ gt := gw_135
theorem cnt_X9_init : Cnt M_X9_init 0 := by unfold Cnt; decide +kernel
theorem ci_X0 {G : Gx} {sh : List Sh} {mm : Nat → Nat → Int32} {lm : Nat → Int64} {q : Nat} (hs : sh[q]? = some (.inl (0, bsl))) : Ct G M_X0_init [.ref q] (sh, mm, lm) true (.inl none) (sh, mset (mset mm q 0 (-1)) q 2 (-1), lm) true 0 0 := by
  refine ct_of_J (by decide +kernel) rfl (Nat.le_of_ble_eq_true rfl) ?_
  refine J_aload_n rfl (i := 0) rfl dX0_init_0 ?_
  refine J_objInit gw_248 gw_138 gw_139 (Nat.le_of_ble_eq_true rfl) (by decide) (by decide) dX0_init_1 ?_
  refine J_aload_n rfl (i := 0) rfl dX0_init_4 ?_
  refine J_iconst (v := -1) (by decide) dX0_init_5 ?_
  refine J_puti kls_0 (q := q) (k := 0) hs (by decide) rfl rfl (fun _ => rfl) (fun _ => rfl) gw_249 dX0_init_6 ?_
  refine J_aload_n rfl (i := 0) rfl dX0_init_9 ?_
  refine J_iconst (v := -1) (by decide) dX0_init_10 ?_
  refine J_puti kls_0 (q := q) (k := 2) hs (by decide) rfl rfl (fun _ => rfl) (fun _ => rfl) gw_260 dX0_init_11 ?_
  exact J_finv rfl dX0_init_14 ⟨rfl, rfl⟩
set_option maxRecDepth 40000 in
set_option maxHeartbeats 4000000 in
theorem ci_X8_init_1 {G : Gx} {mm : Nat → Nat → Int32} {lm : Nat → Int64} (hz : Zf 2 mm) : Ct G M_X8_init [.ref 1] ((List.set (List.set (SH.take 2) 0 (.inl (9, [some none, some none, some none, some none, some none, some none, some none, some none, some none, some none, none]))) 1 (.inl (8, [some none, some none, none, none, none, none, none, none, none]))), mm, lm) true (.inl none) ((List.set (SH.take 4) 0 (.inl (9, [some none, some none, some none, some none, some none, some none, some none, some none, some none, some none, none]))), (mset mm 1 3 (-1)), lm) true 2 403 := by
  refine ct_of_J (by decide +kernel) rfl (by decide) ?_
  refine J_aload_n rfl (i := 0) rfl dX8_init_0 ?_
  refine J_objInit gw_145 gw_138 gw_139 (Nat.le_of_ble_eq_true rfl) (by decide) (by decide) dX8_init_1 ?_
  refine J_aload_n rfl (i := 0) rfl dX8_init_4 ?_
  refine J_sipush (v := 400) (by decide) dX8_init_5 ?_
  refine J_newa (a := 1) (b := 3) (sh' := (List.set (List.set (SH.take 3) 0 (.inl (9, [some none, some none, some none, some none, some none, some none, some none, some none, some none, some none, none]))) 1 (.inl (8, [some none, some none, none, none, none, none, none, none, none])))) (atype := .byte) (ty := .byte) (t := 1) (N := 400) rfl rfl 2 rfl (by decide) (fun j => hz 2 j (Nat.le_refl _)) (fun h => absurd h (by decide)) rfl (by decide) (by decide) (Nat.le_of_ble_eq_true rfl) (fun C h => by cases h) gw_176 dX8_init_8 rfl ?_
  refine J_putFrE (sh' := (List.set (List.set (SH.take 3) 0 (.inl (9, [some none, some none, some none, some none, some none, some none, some none, some none, some none, some none, none]))) 1 (.inl (8, [some (some 2), some none, none, none, none, none, none, none, none])))) kls_8 (q := 1) (k := 0) rfl (by decide) rfl rfl rfl rfl (fun _ => rfl) (fun _ => rfl) gw_146 dX8_init_10 rfl ?_
  refine J_aload_n rfl (i := 0) rfl dX8_init_13 ?_
  refine J_iconst (v := 3) (by decide) dX8_init_14 ?_
  refine J_newa (a := 0) (b := 0) (sh' := (List.set (List.set (SH.take 4) 0 (.inl (9, [some none, some none, some none, some none, some none, some none, some none, some none, some none, some none, none]))) 1 (.inl (8, [some (some 2), some none, none, none, none, none, none, none, none])))) (atype := .int) (ty := .int) (t := 0) (N := 3) rfl rfl 3 rfl (by decide) (fun j => (Zf.mono (by decide) hz) 3 j (Nat.le_refl _)) (fun h => absurd h (by decide)) rfl (by decide) (by decide) (Nat.le_of_ble_eq_true rfl) (fun C h => by cases h) gw_177 dX8_init_15 rfl ?_
  refine J_putFrE (sh' := (List.set (SH.take 4) 0 (.inl (9, [some none, some none, some none, some none, some none, some none, some none, some none, some none, some none, none])))) kls_8 (q := 1) (k := 1) rfl (by decide) rfl rfl rfl rfl (fun _ => rfl) (fun _ => rfl) gw_147 dX8_init_17 rfl ?_
  refine J_aload_n rfl (i := 0) rfl dX8_init_20 ?_
  refine J_iconst (v := (-1)) (by decide) dX8_init_21 ?_
  refine J_puti kls_8 (q := 1) (k := 3) rfl (by decide) rfl rfl (fun _ => rfl) (fun _ => rfl) gw_150 dX8_init_22 ?_
  exact J_finv rfl dX8_init_25 ⟨rfl, rfl⟩
set_option maxRecDepth 40000 in
set_option maxHeartbeats 4000000 in
theorem ci_X7_init_4 {G : Gx} {mm : Nat → Nat → Int32} {lm : Nat → Int64} (hz : Zf 5 mm) : Ct G M_X7_init [.ref 4] ((List.set (List.set (SH.take 5) 0 (.inl (9, [some (some 1), some none, some none, some none, some none, some none, some none, some none, some none, some none, none]))) 4 (.inl (7, [some none, some none, some none, some none, some none, some none, some none, some none, none, none, none, none]))), mm, lm) true (.inl none) ((List.set (SH.take 13) 0 (.inl (9, [some (some 1), some none, some none, some none, some none, some none, some none, some none, some none, some none, none]))), mm, lm) true 8 52 := by
  refine ct_of_J (by decide +kernel) rfl (by decide) ?_
  refine J_aload_n rfl (i := 0) rfl dX7_init_0 ?_
  refine J_objInit gw_183 gw_138 gw_139 (Nat.le_of_ble_eq_true rfl) (by decide) (by decide) dX7_init_1 ?_
  refine J_aload_n rfl (i := 0) rfl dX7_init_4 ?_
  refine J_iconst (v := 4) (by decide) dX7_init_5 ?_
  refine J_newa (a := 7) (b := 48) (sh' := (List.set (List.set (SH.take 6) 0 (.inl (9, [some (some 1), some none, some none, some none, some none, some none, some none, some none, some none, some none, none]))) 4 (.inl (7, [some none, some none, some none, some none, some none, some none, some none, some none, none, none, none, none])))) (atype := .int) (ty := .int) (t := 0) (N := 4) rfl rfl 5 rfl (by decide) (fun j => hz 5 j (Nat.le_refl _)) (fun h => absurd h (by decide)) rfl (by decide) (by decide) (Nat.le_of_ble_eq_true rfl) (fun C h => by cases h) gw_177 dX7_init_6 rfl ?_
  refine J_putFrE (sh' := (List.set (List.set (SH.take 6) 0 (.inl (9, [some (some 1), some none, some none, some none, some none, some none, some none, some none, some none, some none, none]))) 4 (.inl (7, [some (some 5), some none, some none, some none, some none, some none, some none, some none, none, none, none, none])))) kls_7 (q := 4) (k := 0) rfl (by decide) rfl rfl rfl rfl (fun _ => rfl) (fun _ => rfl) gw_184 dX7_init_8 rfl ?_
  refine J_aload_n rfl (i := 0) rfl dX7_init_11 ?_
  refine J_iconst (v := 4) (by decide) dX7_init_12 ?_
  refine J_newa (a := 6) (b := 44) (sh' := (List.set (List.set (SH.take 7) 0 (.inl (9, [some (some 1), some none, some none, some none, some none, some none, some none, some none, some none, some none, none]))) 4 (.inl (7, [some (some 5), some none, some none, some none, some none, some none, some none, some none, none, none, none, none])))) (atype := .int) (ty := .int) (t := 0) (N := 4) rfl rfl 6 rfl (by decide) (fun j => (Zf.mono (by decide) hz) 6 j (Nat.le_refl _)) (fun h => absurd h (by decide)) rfl (by decide) (by decide) (Nat.le_of_ble_eq_true rfl) (fun C h => by cases h) gw_177 dX7_init_13 rfl ?_
  refine J_putFrE (sh' := (List.set (List.set (SH.take 7) 0 (.inl (9, [some (some 1), some none, some none, some none, some none, some none, some none, some none, some none, some none, none]))) 4 (.inl (7, [some (some 5), some (some 6), some none, some none, some none, some none, some none, some none, none, none, none, none])))) kls_7 (q := 4) (k := 1) rfl (by decide) rfl rfl rfl rfl (fun _ => rfl) (fun _ => rfl) gw_186 dX7_init_15 rfl ?_
  refine J_aload_n rfl (i := 0) rfl dX7_init_18 ?_
  refine J_bipush (v := 8) (by decide) dX7_init_19 ?_
  refine J_newa (a := 5) (b := 36) (sh' := (List.set (List.set (SH.take 8) 0 (.inl (9, [some (some 1), some none, some none, some none, some none, some none, some none, some none, some none, some none, none]))) 4 (.inl (7, [some (some 5), some (some 6), some none, some none, some none, some none, some none, some none, none, none, none, none])))) (atype := .int) (ty := .int) (t := 0) (N := 8) rfl rfl 7 rfl (by decide) (fun j => (Zf.mono (by decide) hz) 7 j (Nat.le_refl _)) (fun h => absurd h (by decide)) rfl (by decide) (by decide) (Nat.le_of_ble_eq_true rfl) (fun C h => by cases h) gw_177 dX7_init_21 rfl ?_
  refine J_putFrE (sh' := (List.set (List.set (SH.take 8) 0 (.inl (9, [some (some 1), some none, some none, some none, some none, some none, some none, some none, some none, some none, none]))) 4 (.inl (7, [some (some 5), some (some 6), some (some 7), some none, some none, some none, some none, some none, none, none, none, none])))) kls_7 (q := 4) (k := 2) rfl (by decide) rfl rfl rfl rfl (fun _ => rfl) (fun _ => rfl) gw_187 dX7_init_23 rfl ?_
  refine J_aload_n rfl (i := 0) rfl dX7_init_26 ?_
  refine J_bipush (v := 8) (by decide) dX7_init_27 ?_
  refine J_newa (a := 4) (b := 28) (sh' := (List.set (List.set (SH.take 9) 0 (.inl (9, [some (some 1), some none, some none, some none, some none, some none, some none, some none, some none, some none, none]))) 4 (.inl (7, [some (some 5), some (some 6), some (some 7), some none, some none, some none, some none, some none, none, none, none, none])))) (atype := .int) (ty := .int) (t := 0) (N := 8) rfl rfl 8 rfl (by decide) (fun j => (Zf.mono (by decide) hz) 8 j (Nat.le_refl _)) (fun h => absurd h (by decide)) rfl (by decide) (by decide) (Nat.le_of_ble_eq_true rfl) (fun C h => by cases h) gw_177 dX7_init_29 rfl ?_
  refine J_putFrE (sh' := (List.set (List.set (SH.take 9) 0 (.inl (9, [some (some 1), some none, some none, some none, some none, some none, some none, some none, some none, some none, none]))) 4 (.inl (7, [some (some 5), some (some 6), some (some 7), some (some 8), some none, some none, some none, some none, none, none, none, none])))) kls_7 (q := 4) (k := 3) rfl (by decide) rfl rfl rfl rfl (fun _ => rfl) (fun _ => rfl) gw_190 dX7_init_31 rfl ?_
  refine J_aload_n rfl (i := 0) rfl dX7_init_34 ?_
  refine J_bipush (v := 8) (by decide) dX7_init_35 ?_
  refine J_newa (a := 3) (b := 20) (sh' := (List.set (List.set (SH.take 10) 0 (.inl (9, [some (some 1), some none, some none, some none, some none, some none, some none, some none, some none, some none, none]))) 4 (.inl (7, [some (some 5), some (some 6), some (some 7), some (some 8), some none, some none, some none, some none, none, none, none, none])))) (atype := .int) (ty := .int) (t := 0) (N := 8) rfl rfl 9 rfl (by decide) (fun j => (Zf.mono (by decide) hz) 9 j (Nat.le_refl _)) (fun h => absurd h (by decide)) rfl (by decide) (by decide) (Nat.le_of_ble_eq_true rfl) (fun C h => by cases h) gw_177 dX7_init_37 rfl ?_
  refine J_putFrE (sh' := (List.set (List.set (SH.take 10) 0 (.inl (9, [some (some 1), some none, some none, some none, some none, some none, some none, some none, some none, some none, none]))) 4 (.inl (7, [some (some 5), some (some 6), some (some 7), some (some 8), some (some 9), some none, some none, some none, none, none, none, none])))) kls_7 (q := 4) (k := 4) rfl (by decide) rfl rfl rfl rfl (fun _ => rfl) (fun _ => rfl) gw_192 dX7_init_39 rfl ?_
  refine J_aload_n rfl (i := 0) rfl dX7_init_42 ?_
  refine J_bipush (v := 6) (by decide) dX7_init_43 ?_
  refine J_newa (a := 2) (b := 14) (sh' := (List.set (List.set (SH.take 11) 0 (.inl (9, [some (some 1), some none, some none, some none, some none, some none, some none, some none, some none, some none, none]))) 4 (.inl (7, [some (some 5), some (some 6), some (some 7), some (some 8), some (some 9), some none, some none, some none, none, none, none, none])))) (atype := .int) (ty := .int) (t := 0) (N := 6) rfl rfl 10 rfl (by decide) (fun j => (Zf.mono (by decide) hz) 10 j (Nat.le_refl _)) (fun h => absurd h (by decide)) rfl (by decide) (by decide) (Nat.le_of_ble_eq_true rfl) (fun C h => by cases h) gw_177 dX7_init_45 rfl ?_
  refine J_putFrE (sh' := (List.set (List.set (SH.take 11) 0 (.inl (9, [some (some 1), some none, some none, some none, some none, some none, some none, some none, some none, some none, none]))) 4 (.inl (7, [some (some 5), some (some 6), some (some 7), some (some 8), some (some 9), some (some 10), some none, some none, none, none, none, none])))) kls_7 (q := 4) (k := 5) rfl (by decide) rfl rfl rfl rfl (fun _ => rfl) (fun _ => rfl) gw_194 dX7_init_47 rfl ?_
  refine J_aload_n rfl (i := 0) rfl dX7_init_50 ?_
  refine J_bipush (v := 6) (by decide) dX7_init_51 ?_
  refine J_newa (a := 1) (b := 8) (sh' := (List.set (List.set (SH.take 12) 0 (.inl (9, [some (some 1), some none, some none, some none, some none, some none, some none, some none, some none, some none, none]))) 4 (.inl (7, [some (some 5), some (some 6), some (some 7), some (some 8), some (some 9), some (some 10), some none, some none, none, none, none, none])))) (atype := .int) (ty := .int) (t := 0) (N := 6) rfl rfl 11 rfl (by decide) (fun j => (Zf.mono (by decide) hz) 11 j (Nat.le_refl _)) (fun h => absurd h (by decide)) rfl (by decide) (by decide) (Nat.le_of_ble_eq_true rfl) (fun C h => by cases h) gw_177 dX7_init_53 rfl ?_
  refine J_putFrE (sh' := (List.set (List.set (SH.take 12) 0 (.inl (9, [some (some 1), some none, some none, some none, some none, some none, some none, some none, some none, some none, none]))) 4 (.inl (7, [some (some 5), some (some 6), some (some 7), some (some 8), some (some 9), some (some 10), some (some 11), some none, none, none, none, none])))) kls_7 (q := 4) (k := 6) rfl (by decide) rfl rfl rfl rfl (fun _ => rfl) (fun _ => rfl) gw_196 dX7_init_55 rfl ?_
  refine J_aload_n rfl (i := 0) rfl dX7_init_58 ?_
  refine J_bipush (v := 8) (by decide) dX7_init_59 ?_
  refine J_newa (a := 0) (b := 0) (sh' := (List.set (List.set (SH.take 13) 0 (.inl (9, [some (some 1), some none, some none, some none, some none, some none, some none, some none, some none, some none, none]))) 4 (.inl (7, [some (some 5), some (some 6), some (some 7), some (some 8), some (some 9), some (some 10), some (some 11), some none, none, none, none, none])))) (atype := .int) (ty := .int) (t := 0) (N := 8) rfl rfl 12 rfl (by decide) (fun j => (Zf.mono (by decide) hz) 12 j (Nat.le_refl _)) (fun h => absurd h (by decide)) rfl (by decide) (by decide) (Nat.le_of_ble_eq_true rfl) (fun C h => by cases h) gw_177 dX7_init_61 rfl ?_
  refine J_putFrE (sh' := (List.set (SH.take 13) 0 (.inl (9, [some (some 1), some none, some none, some none, some none, some none, some none, some none, some none, some none, none])))) kls_7 (q := 4) (k := 7) rfl (by decide) rfl rfl rfl rfl (fun _ => rfl) (fun _ => rfl) gw_198 dX7_init_63 rfl ?_
  exact J_finv rfl dX7_init_66 ⟨rfl, rfl⟩
set_option maxRecDepth 40000 in
set_option maxHeartbeats 4000000 in
theorem ci_X7_init_13 {G : Gx} {mm : Nat → Nat → Int32} {lm : Nat → Int64} (hz : Zf 14 mm) : Ct G M_X7_init [.ref 13] ((List.set (List.set (SH.take 14) 0 (.inl (9, [some (some 1), some (some 4), some none, some none, some none, some none, some none, some none, some none, some none, none]))) 13 (.inl (7, [some none, some none, some none, some none, some none, some none, some none, some none, none, none, none, none]))), mm, lm) true (.inl none) ((List.set (SH.take 22) 0 (.inl (9, [some (some 1), some (some 4), some none, some none, some none, some none, some none, some none, some none, some none, none]))), mm, lm) true 8 52 := by
  refine ct_of_J (by decide +kernel) rfl (by decide) ?_
  refine J_aload_n rfl (i := 0) rfl dX7_init_0 ?_
  refine J_objInit gw_183 gw_138 gw_139 (Nat.le_of_ble_eq_true rfl) (by decide) (by decide) dX7_init_1 ?_
  refine J_aload_n rfl (i := 0) rfl dX7_init_4 ?_
  refine J_iconst (v := 4) (by decide) dX7_init_5 ?_
  refine J_newa (a := 7) (b := 48) (sh' := (List.set (List.set (SH.take 15) 0 (.inl (9, [some (some 1), some (some 4), some none, some none, some none, some none, some none, some none, some none, some none, none]))) 13 (.inl (7, [some none, some none, some none, some none, some none, some none, some none, some none, none, none, none, none])))) (atype := .int) (ty := .int) (t := 0) (N := 4) rfl rfl 14 rfl (by decide) (fun j => hz 14 j (Nat.le_refl _)) (fun h => absurd h (by decide)) rfl (by decide) (by decide) (Nat.le_of_ble_eq_true rfl) (fun C h => by cases h) gw_177 dX7_init_6 rfl ?_
  refine J_putFrE (sh' := (List.set (List.set (SH.take 15) 0 (.inl (9, [some (some 1), some (some 4), some none, some none, some none, some none, some none, some none, some none, some none, none]))) 13 (.inl (7, [some (some 14), some none, some none, some none, some none, some none, some none, some none, none, none, none, none])))) kls_7 (q := 13) (k := 0) rfl (by decide) rfl rfl rfl rfl (fun _ => rfl) (fun _ => rfl) gw_184 dX7_init_8 rfl ?_
  refine J_aload_n rfl (i := 0) rfl dX7_init_11 ?_
  refine J_iconst (v := 4) (by decide) dX7_init_12 ?_
  refine J_newa (a := 6) (b := 44) (sh' := (List.set (List.set (SH.take 16) 0 (.inl (9, [some (some 1), some (some 4), some none, some none, some none, some none, some none, some none, some none, some none, none]))) 13 (.inl (7, [some (some 14), some none, some none, some none, some none, some none, some none, some none, none, none, none, none])))) (atype := .int) (ty := .int) (t := 0) (N := 4) rfl rfl 15 rfl (by decide) (fun j => (Zf.mono (by decide) hz) 15 j (Nat.le_refl _)) (fun h => absurd h (by decide)) rfl (by decide) (by decide) (Nat.le_of_ble_eq_true rfl) (fun C h => by cases h) gw_177 dX7_init_13 rfl ?_
  refine J_putFrE (sh' := (List.set (List.set (SH.take 16) 0 (.inl (9, [some (some 1), some (some 4), some none, some none, some none, some none, some none, some none, some none, some none, none]))) 13 (.inl (7, [some (some 14), some (some 15), some none, some none, some none, some none, some none, some none, none, none, none, none])))) kls_7 (q := 13) (k := 1) rfl (by decide) rfl rfl rfl rfl (fun _ => rfl) (fun _ => rfl) gw_186 dX7_init_15 rfl ?_
  refine J_aload_n rfl (i := 0) rfl dX7_init_18 ?_
  refine J_bipush (v := 8) (by decide) dX7_init_19 ?_
  refine J_newa (a := 5) (b := 36) (sh' := (List.set (List.set (SH.take 17) 0 (.inl (9, [some (some 1), some (some 4), some none, some none, some none, some none, some none, some none, some none, some none, none]))) 13 (.inl (7, [some (some 14), some (some 15), some none, some none, some none, some none, some none, some none, none, none, none, none])))) (atype := .int) (ty := .int) (t := 0) (N := 8) rfl rfl 16 rfl (by decide) (fun j => (Zf.mono (by decide) hz) 16 j (Nat.le_refl _)) (fun h => absurd h (by decide)) rfl (by decide) (by decide) (Nat.le_of_ble_eq_true rfl) (fun C h => by cases h) gw_177 dX7_init_21 rfl ?_
  refine J_putFrE (sh' := (List.set (List.set (SH.take 17) 0 (.inl (9, [some (some 1), some (some 4), some none, some none, some none, some none, some none, some none, some none, some none, none]))) 13 (.inl (7, [some (some 14), some (some 15), some (some 16), some none, some none, some none, some none, some none, none, none, none, none])))) kls_7 (q := 13) (k := 2) rfl (by decide) rfl rfl rfl rfl (fun _ => rfl) (fun _ => rfl) gw_187 dX7_init_23 rfl ?_
  refine J_aload_n rfl (i := 0) rfl dX7_init_26 ?_
  refine J_bipush (v := 8) (by decide) dX7_init_27 ?_
  refine J_newa (a := 4) (b := 28) (sh' := (List.set (List.set (SH.take 18) 0 (.inl (9, [some (some 1), some (some 4), some none, some none, some none, some none, some none, some none, some none, some none, none]))) 13 (.inl (7, [some (some 14), some (some 15), some (some 16), some none, some none, some none, some none, some none, none, none, none, none])))) (atype := .int) (ty := .int) (t := 0) (N := 8) rfl rfl 17 rfl (by decide) (fun j => (Zf.mono (by decide) hz) 17 j (Nat.le_refl _)) (fun h => absurd h (by decide)) rfl (by decide) (by decide) (Nat.le_of_ble_eq_true rfl) (fun C h => by cases h) gw_177 dX7_init_29 rfl ?_
  refine J_putFrE (sh' := (List.set (List.set (SH.take 18) 0 (.inl (9, [some (some 1), some (some 4), some none, some none, some none, some none, some none, some none, some none, some none, none]))) 13 (.inl (7, [some (some 14), some (some 15), some (some 16), some (some 17), some none, some none, some none, some none, none, none, none, none])))) kls_7 (q := 13) (k := 3) rfl (by decide) rfl rfl rfl rfl (fun _ => rfl) (fun _ => rfl) gw_190 dX7_init_31 rfl ?_
  refine J_aload_n rfl (i := 0) rfl dX7_init_34 ?_
  refine J_bipush (v := 8) (by decide) dX7_init_35 ?_
  refine J_newa (a := 3) (b := 20) (sh' := (List.set (List.set (SH.take 19) 0 (.inl (9, [some (some 1), some (some 4), some none, some none, some none, some none, some none, some none, some none, some none, none]))) 13 (.inl (7, [some (some 14), some (some 15), some (some 16), some (some 17), some none, some none, some none, some none, none, none, none, none])))) (atype := .int) (ty := .int) (t := 0) (N := 8) rfl rfl 18 rfl (by decide) (fun j => (Zf.mono (by decide) hz) 18 j (Nat.le_refl _)) (fun h => absurd h (by decide)) rfl (by decide) (by decide) (Nat.le_of_ble_eq_true rfl) (fun C h => by cases h) gw_177 dX7_init_37 rfl ?_
  refine J_putFrE (sh' := (List.set (List.set (SH.take 19) 0 (.inl (9, [some (some 1), some (some 4), some none, some none, some none, some none, some none, some none, some none, some none, none]))) 13 (.inl (7, [some (some 14), some (some 15), some (some 16), some (some 17), some (some 18), some none, some none, some none, none, none, none, none])))) kls_7 (q := 13) (k := 4) rfl (by decide) rfl rfl rfl rfl (fun _ => rfl) (fun _ => rfl) gw_192 dX7_init_39 rfl ?_
  refine J_aload_n rfl (i := 0) rfl dX7_init_42 ?_
  refine J_bipush (v := 6) (by decide) dX7_init_43 ?_
  refine J_newa (a := 2) (b := 14) (sh' := (List.set (List.set (SH.take 20) 0 (.inl (9, [some (some 1), some (some 4), some none, some none, some none, some none, some none, some none, some none, some none, none]))) 13 (.inl (7, [some (some 14), some (some 15), some (some 16), some (some 17), some (some 18), some none, some none, some none, none, none, none, none])))) (atype := .int) (ty := .int) (t := 0) (N := 6) rfl rfl 19 rfl (by decide) (fun j => (Zf.mono (by decide) hz) 19 j (Nat.le_refl _)) (fun h => absurd h (by decide)) rfl (by decide) (by decide) (Nat.le_of_ble_eq_true rfl) (fun C h => by cases h) gw_177 dX7_init_45 rfl ?_
  refine J_putFrE (sh' := (List.set (List.set (SH.take 20) 0 (.inl (9, [some (some 1), some (some 4), some none, some none, some none, some none, some none, some none, some none, some none, none]))) 13 (.inl (7, [some (some 14), some (some 15), some (some 16), some (some 17), some (some 18), some (some 19), some none, some none, none, none, none, none])))) kls_7 (q := 13) (k := 5) rfl (by decide) rfl rfl rfl rfl (fun _ => rfl) (fun _ => rfl) gw_194 dX7_init_47 rfl ?_
  refine J_aload_n rfl (i := 0) rfl dX7_init_50 ?_
  refine J_bipush (v := 6) (by decide) dX7_init_51 ?_
  refine J_newa (a := 1) (b := 8) (sh' := (List.set (List.set (SH.take 21) 0 (.inl (9, [some (some 1), some (some 4), some none, some none, some none, some none, some none, some none, some none, some none, none]))) 13 (.inl (7, [some (some 14), some (some 15), some (some 16), some (some 17), some (some 18), some (some 19), some none, some none, none, none, none, none])))) (atype := .int) (ty := .int) (t := 0) (N := 6) rfl rfl 20 rfl (by decide) (fun j => (Zf.mono (by decide) hz) 20 j (Nat.le_refl _)) (fun h => absurd h (by decide)) rfl (by decide) (by decide) (Nat.le_of_ble_eq_true rfl) (fun C h => by cases h) gw_177 dX7_init_53 rfl ?_
  refine J_putFrE (sh' := (List.set (List.set (SH.take 21) 0 (.inl (9, [some (some 1), some (some 4), some none, some none, some none, some none, some none, some none, some none, some none, none]))) 13 (.inl (7, [some (some 14), some (some 15), some (some 16), some (some 17), some (some 18), some (some 19), some (some 20), some none, none, none, none, none])))) kls_7 (q := 13) (k := 6) rfl (by decide) rfl rfl rfl rfl (fun _ => rfl) (fun _ => rfl) gw_196 dX7_init_55 rfl ?_
  refine J_aload_n rfl (i := 0) rfl dX7_init_58 ?_
  refine J_bipush (v := 8) (by decide) dX7_init_59 ?_
  refine J_newa (a := 0) (b := 0) (sh' := (List.set (List.set (SH.take 22) 0 (.inl (9, [some (some 1), some (some 4), some none, some none, some none, some none, some none, some none, some none, some none, none]))) 13 (.inl (7, [some (some 14), some (some 15), some (some 16), some (some 17), some (some 18), some (some 19), some (some 20), some none, none, none, none, none])))) (atype := .int) (ty := .int) (t := 0) (N := 8) rfl rfl 21 rfl (by decide) (fun j => (Zf.mono (by decide) hz) 21 j (Nat.le_refl _)) (fun h => absurd h (by decide)) rfl (by decide) (by decide) (Nat.le_of_ble_eq_true rfl) (fun C h => by cases h) gw_177 dX7_init_61 rfl ?_
  refine J_putFrE (sh' := (List.set (SH.take 22) 0 (.inl (9, [some (some 1), some (some 4), some none, some none, some none, some none, some none, some none, some none, some none, none])))) kls_7 (q := 13) (k := 7) rfl (by decide) rfl rfl rfl rfl (fun _ => rfl) (fun _ => rfl) gw_198 dX7_init_63 rfl ?_
  exact J_finv rfl dX7_init_66 ⟨rfl, rfl⟩
set_option maxRecDepth 40000 in
set_option maxHeartbeats 4000000 in
theorem ci_X2_init_31 {G : Gx} {mm : Nat → Nat → Int32} {lm : Nat → Int64} (hz : Zf 32 mm) : Ct G M_X2_init [.ref 31, .ref 4, .ref 22] ((List.set (List.set (SH.take 32) 0 (.inl (9, [some (some 1), some (some 4), some (some 13), some (some 22), some none, some none, some none, some none, some none, some none, none]))) 31 (.inl (2, [some none, some none]))), mm, lm) true (.inl none) ((List.set (SH.take 32) 0 (.inl (9, [some (some 1), some (some 4), some (some 13), some (some 22), some none, some none, some none, some none, some none, some none, none]))), mm, lm) true 0 0 := by
  refine ct_of_J (by decide +kernel) rfl (by decide) ?_
  refine J_aload_n rfl (i := 0) rfl dX2_init_0 ?_
  refine J_objInit gw_300 gw_138 gw_139 (Nat.le_of_ble_eq_true rfl) (by decide) (by decide) dX2_init_1 ?_
  refine J_aload_n rfl (i := 0) rfl dX2_init_4 ?_
  refine J_aload_n rfl (i := 1) rfl dX2_init_5 ?_
  refine J_putFrE (sh' := (List.set (List.set (SH.take 32) 0 (.inl (9, [some (some 1), some (some 4), some (some 13), some (some 22), some none, some none, some none, some none, some none, some none, none]))) 31 (.inl (2, [some (some 4), some none])))) kls_2 (q := 31) (k := 0) rfl (by decide) rfl rfl rfl rfl (fun _ => rfl) (fun _ => rfl) gw_301 dX2_init_6 rfl ?_
  refine J_aload_n rfl (i := 0) rfl dX2_init_9 ?_
  refine J_aload_n rfl (i := 2) rfl dX2_init_10 ?_
  refine J_putFrE (sh' := (List.set (SH.take 32) 0 (.inl (9, [some (some 1), some (some 4), some (some 13), some (some 22), some none, some none, some none, some none, some none, some none, none])))) kls_2 (q := 31) (k := 1) rfl (by decide) rfl rfl rfl rfl (fun _ => rfl) (fun _ => rfl) gw_302 dX2_init_11 rfl ?_
  exact J_finv rfl dX2_init_14 ⟨rfl, rfl⟩
set_option maxRecDepth 40000 in
set_option maxHeartbeats 4000000 in
theorem ci_X4_init_32 {G : Gx} {mm : Nat → Nat → Int32} {lm : Nat → Int64} (hz : Zf 33 mm) : Ct G M_X4_init [.ref 32, .ref 4, .ref 22] ((List.set (List.set (SH.take 33) 0 (.inl (9, [some (some 1), some (some 4), some (some 13), some (some 22), some (some 31), some none, some none, some none, some none, some none, none]))) 32 (.inl (4, [some none, some none, some none, some none, some none, some none, some none, none, none]))), mm, lm) true (.inl none) ((List.set (SH.take 38) 0 (.inl (9, [some (some 1), some (some 4), some (some 13), some (some 22), some (some 31), some none, some none, some none, some none, some none, none]))), mm, lm) true 5 13142 := by
  refine ct_of_J (by decide +kernel) rfl (by decide) ?_
  refine J_aload_n rfl (i := 0) rfl dX4_init_0 ?_
  refine J_objInit gw_313 gw_138 gw_139 (Nat.le_of_ble_eq_true rfl) (by decide) (by decide) dX4_init_1 ?_
  refine J_aload_n rfl (i := 0) rfl dX4_init_4 ?_
  refine J_sipush (v := 6561) (by decide) dX4_init_5 ?_
  refine J_newa (a := 4) (b := 6581) (sh' := (List.set (List.set (SH.take 34) 0 (.inl (9, [some (some 1), some (some 4), some (some 13), some (some 22), some (some 31), some none, some none, some none, some none, some none, none]))) 32 (.inl (4, [some none, some none, some none, some none, some none, some none, some none, none, none])))) (atype := .int) (ty := .int) (t := 0) (N := 6561) rfl rfl 33 rfl (by decide) (fun j => hz 33 j (Nat.le_refl _)) (fun h => absurd h (by decide)) rfl (by decide) (by decide) (Nat.le_of_ble_eq_true rfl) (fun C h => by cases h) gw_177 dX4_init_8 rfl ?_
  refine J_putFrE (sh' := (List.set (List.set (SH.take 34) 0 (.inl (9, [some (some 1), some (some 4), some (some 13), some (some 22), some (some 31), some none, some none, some none, some none, some none, none]))) 32 (.inl (4, [some none, some none, some (some 33), some none, some none, some none, some none, none, none])))) kls_4 (q := 32) (k := 2) rfl (by decide) rfl rfl rfl rfl (fun _ => rfl) (fun _ => rfl) gw_316 dX4_init_10 rfl ?_
  refine J_aload_n rfl (i := 0) rfl dX4_init_13 ?_
  refine J_sipush (v := 6561) (by decide) dX4_init_14 ?_
  refine J_newa (a := 3) (b := 20) (sh' := (List.set (List.set (SH.take 35) 0 (.inl (9, [some (some 1), some (some 4), some (some 13), some (some 22), some (some 31), some none, some none, some none, some none, some none, none]))) 32 (.inl (4, [some none, some none, some (some 33), some none, some none, some none, some none, none, none])))) (atype := .int) (ty := .int) (t := 0) (N := 6561) rfl rfl 34 rfl (by decide) (fun j => (Zf.mono (by decide) hz) 34 j (Nat.le_refl _)) (fun h => absurd h (by decide)) rfl (by decide) (by decide) (Nat.le_of_ble_eq_true rfl) (fun C h => by cases h) gw_177 dX4_init_17 rfl ?_
  refine J_putFrE (sh' := (List.set (List.set (SH.take 35) 0 (.inl (9, [some (some 1), some (some 4), some (some 13), some (some 22), some (some 31), some none, some none, some none, some none, some none, none]))) 32 (.inl (4, [some none, some none, some (some 33), some (some 34), some none, some none, some none, none, none])))) kls_4 (q := 32) (k := 3) rfl (by decide) rfl rfl rfl rfl (fun _ => rfl) (fun _ => rfl) gw_317 dX4_init_19 rfl ?_
  refine J_aload_n rfl (i := 0) rfl dX4_init_22 ?_
  refine J_bipush (v := 8) (by decide) dX4_init_23 ?_
  refine J_newa (a := 2) (b := 12) (sh' := (List.set (List.set (SH.take 36) 0 (.inl (9, [some (some 1), some (some 4), some (some 13), some (some 22), some (some 31), some none, some none, some none, some none, some none, none]))) 32 (.inl (4, [some none, some none, some (some 33), some (some 34), some none, some none, some none, none, none])))) (atype := .int) (ty := .int) (t := 0) (N := 8) rfl rfl 35 rfl (by decide) (fun j => (Zf.mono (by decide) hz) 35 j (Nat.le_refl _)) (fun h => absurd h (by decide)) rfl (by decide) (by decide) (Nat.le_of_ble_eq_true rfl) (fun C h => by cases h) gw_177 dX4_init_25 rfl ?_
  refine J_putFrE (sh' := (List.set (List.set (SH.take 36) 0 (.inl (9, [some (some 1), some (some 4), some (some 13), some (some 22), some (some 31), some none, some none, some none, some none, some none, none]))) 32 (.inl (4, [some none, some none, some (some 33), some (some 34), some (some 35), some none, some none, none, none])))) kls_4 (q := 32) (k := 4) rfl (by decide) rfl rfl rfl rfl (fun _ => rfl) (fun _ => rfl) gw_318 dX4_init_27 rfl ?_
  refine J_aload_n rfl (i := 0) rfl dX4_init_30 ?_
  refine J_bipush (v := 8) (by decide) dX4_init_31 ?_
  refine J_newa (a := 1) (b := 4) (sh' := (List.set (List.set (SH.take 37) 0 (.inl (9, [some (some 1), some (some 4), some (some 13), some (some 22), some (some 31), some none, some none, some none, some none, some none, none]))) 32 (.inl (4, [some none, some none, some (some 33), some (some 34), some (some 35), some none, some none, none, none])))) (atype := .int) (ty := .int) (t := 0) (N := 8) rfl rfl 36 rfl (by decide) (fun j => (Zf.mono (by decide) hz) 36 j (Nat.le_refl _)) (fun h => absurd h (by decide)) rfl (by decide) (by decide) (Nat.le_of_ble_eq_true rfl) (fun C h => by cases h) gw_177 dX4_init_33 rfl ?_
  refine J_putFrE (sh' := (List.set (List.set (SH.take 37) 0 (.inl (9, [some (some 1), some (some 4), some (some 13), some (some 22), some (some 31), some none, some none, some none, some none, some none, none]))) 32 (.inl (4, [some none, some none, some (some 33), some (some 34), some (some 35), some (some 36), some none, none, none])))) kls_4 (q := 32) (k := 5) rfl (by decide) rfl rfl rfl rfl (fun _ => rfl) (fun _ => rfl) gw_319 dX4_init_35 rfl ?_
  refine J_aload_n rfl (i := 0) rfl dX4_init_38 ?_
  refine J_iconst (v := 4) (by decide) dX4_init_39 ?_
  refine J_newa (a := 0) (b := 0) (sh' := (List.set (List.set (SH.take 38) 0 (.inl (9, [some (some 1), some (some 4), some (some 13), some (some 22), some (some 31), some none, some none, some none, some none, some none, none]))) 32 (.inl (4, [some none, some none, some (some 33), some (some 34), some (some 35), some (some 36), some none, none, none])))) (atype := .int) (ty := .int) (t := 0) (N := 4) rfl rfl 37 rfl (by decide) (fun j => (Zf.mono (by decide) hz) 37 j (Nat.le_refl _)) (fun h => absurd h (by decide)) rfl (by decide) (by decide) (Nat.le_of_ble_eq_true rfl) (fun C h => by cases h) gw_177 dX4_init_40 rfl ?_
  refine J_putFrE (sh' := (List.set (List.set (SH.take 38) 0 (.inl (9, [some (some 1), some (some 4), some (some 13), some (some 22), some (some 31), some none, some none, some none, some none, some none, none]))) 32 (.inl (4, [some none, some none, some (some 33), some (some 34), some (some 35), some (some 36), some (some 37), none, none])))) kls_4 (q := 32) (k := 6) rfl (by decide) rfl rfl rfl rfl (fun _ => rfl) (fun _ => rfl) gw_320 dX4_init_42 rfl ?_
  refine J_aload_n rfl (i := 0) rfl dX4_init_45 ?_
  refine J_aload_n rfl (i := 1) rfl dX4_init_46 ?_
  refine J_putFrE (sh' := (List.set (List.set (SH.take 38) 0 (.inl (9, [some (some 1), some (some 4), some (some 13), some (some 22), some (some 31), some none, some none, some none, some none, some none, none]))) 32 (.inl (4, [some (some 4), some none, some (some 33), some (some 34), some (some 35), some (some 36), some (some 37), none, none])))) kls_4 (q := 32) (k := 0) rfl (by decide) rfl rfl rfl rfl (fun _ => rfl) (fun _ => rfl) gw_314 dX4_init_47 rfl ?_
  refine J_aload_n rfl (i := 0) rfl dX4_init_50 ?_
  refine J_aload_n rfl (i := 2) rfl dX4_init_51 ?_
  refine J_putFrE (sh' := (List.set (SH.take 38) 0 (.inl (9, [some (some 1), some (some 4), some (some 13), some (some 22), some (some 31), some none, some none, some none, some none, some none, none])))) kls_4 (q := 32) (k := 1) rfl (by decide) rfl rfl rfl rfl (fun _ => rfl) (fun _ => rfl) gw_315 dX4_init_52 rfl ?_
  exact J_finv rfl dX4_init_55 ⟨rfl, rfl⟩
set_option maxRecDepth 40000 in
set_option maxHeartbeats 4000000 in
theorem ci_X6_init_38 {G : Gx} {mm : Nat → Nat → Int32} {lm : Nat → Int64} (hz : Zf 39 mm) : Ct G M_X6_init [.ref 38, .ref 4, .ref 22] ((List.set (List.set (SH.take 39) 0 (.inl (9, [some (some 1), some (some 4), some (some 13), some (some 22), some (some 31), some (some 32), some none, some none, some none, some none, none]))) 38 (.inl (6, [some none, some none, some none, some none, some none]))), mm, lm) true (.inl none) ((List.set (SH.take 42) 0 (.inl (9, [some (some 1), some (some 4), some (some 13), some (some 22), some (some 31), some (some 32), some none, some none, some none, some none, none]))), mm, lm) true 3 2008 := by
  refine ct_of_J (by decide +kernel) rfl (by decide) ?_
  refine J_aload_n rfl (i := 0) rfl dX6_init_0 ?_
  refine J_objInit gw_347 gw_138 gw_139 (Nat.le_of_ble_eq_true rfl) (by decide) (by decide) dX6_init_1 ?_
  refine J_aload_n rfl (i := 0) rfl dX6_init_4 ?_
  refine J_sipush (v := 1000) (by decide) dX6_init_5 ?_
  refine J_newa (a := 2) (b := 1008) (sh' := (List.set (List.set (SH.take 40) 0 (.inl (9, [some (some 1), some (some 4), some (some 13), some (some 22), some (some 31), some (some 32), some none, some none, some none, some none, none]))) 38 (.inl (6, [some none, some none, some none, some none, some none])))) (atype := .int) (ty := .int) (t := 0) (N := 1000) rfl rfl 39 rfl (by decide) (fun j => hz 39 j (Nat.le_refl _)) (fun h => absurd h (by decide)) rfl (by decide) (by decide) (Nat.le_of_ble_eq_true rfl) (fun C h => by cases h) gw_177 dX6_init_8 rfl ?_
  refine J_putFrE (sh' := (List.set (List.set (SH.take 40) 0 (.inl (9, [some (some 1), some (some 4), some (some 13), some (some 22), some (some 31), some (some 32), some none, some none, some none, some none, none]))) 38 (.inl (6, [some none, some none, some (some 39), some none, some none])))) kls_6 (q := 38) (k := 2) rfl (by decide) rfl rfl rfl rfl (fun _ => rfl) (fun _ => rfl) gw_350 dX6_init_10 rfl ?_
  refine J_aload_n rfl (i := 0) rfl dX6_init_13 ?_
  refine J_sipush (v := 1000) (by decide) dX6_init_14 ?_
  refine J_newa (a := 1) (b := 8) (sh' := (List.set (List.set (SH.take 41) 0 (.inl (9, [some (some 1), some (some 4), some (some 13), some (some 22), some (some 31), some (some 32), some none, some none, some none, some none, none]))) 38 (.inl (6, [some none, some none, some (some 39), some none, some none])))) (atype := .int) (ty := .int) (t := 0) (N := 1000) rfl rfl 40 rfl (by decide) (fun j => (Zf.mono (by decide) hz) 40 j (Nat.le_refl _)) (fun h => absurd h (by decide)) rfl (by decide) (by decide) (Nat.le_of_ble_eq_true rfl) (fun C h => by cases h) gw_177 dX6_init_17 rfl ?_
  refine J_putFrE (sh' := (List.set (List.set (SH.take 41) 0 (.inl (9, [some (some 1), some (some 4), some (some 13), some (some 22), some (some 31), some (some 32), some none, some none, some none, some none, none]))) 38 (.inl (6, [some none, some none, some (some 39), some (some 40), some none])))) kls_6 (q := 38) (k := 3) rfl (by decide) rfl rfl rfl rfl (fun _ => rfl) (fun _ => rfl) gw_351 dX6_init_19 rfl ?_
  refine J_aload_n rfl (i := 0) rfl dX6_init_22 ?_
  refine J_bipush (v := 8) (by decide) dX6_init_23 ?_
  refine J_newa (a := 0) (b := 0) (sh' := (List.set (List.set (SH.take 42) 0 (.inl (9, [some (some 1), some (some 4), some (some 13), some (some 22), some (some 31), some (some 32), some none, some none, some none, some none, none]))) 38 (.inl (6, [some none, some none, some (some 39), some (some 40), some none])))) (atype := .int) (ty := .int) (t := 0) (N := 8) rfl rfl 41 rfl (by decide) (fun j => (Zf.mono (by decide) hz) 41 j (Nat.le_refl _)) (fun h => absurd h (by decide)) rfl (by decide) (by decide) (Nat.le_of_ble_eq_true rfl) (fun C h => by cases h) gw_177 dX6_init_25 rfl ?_
  refine J_putFrE (sh' := (List.set (List.set (SH.take 42) 0 (.inl (9, [some (some 1), some (some 4), some (some 13), some (some 22), some (some 31), some (some 32), some none, some none, some none, some none, none]))) 38 (.inl (6, [some none, some none, some (some 39), some (some 40), some (some 41)])))) kls_6 (q := 38) (k := 4) rfl (by decide) rfl rfl rfl rfl (fun _ => rfl) (fun _ => rfl) gw_352 dX6_init_27 rfl ?_
  refine J_aload_n rfl (i := 0) rfl dX6_init_30 ?_
  refine J_aload_n rfl (i := 1) rfl dX6_init_31 ?_
  refine J_putFrE (sh' := (List.set (List.set (SH.take 42) 0 (.inl (9, [some (some 1), some (some 4), some (some 13), some (some 22), some (some 31), some (some 32), some none, some none, some none, some none, none]))) 38 (.inl (6, [some (some 4), some none, some (some 39), some (some 40), some (some 41)])))) kls_6 (q := 38) (k := 0) rfl (by decide) rfl rfl rfl rfl (fun _ => rfl) (fun _ => rfl) gw_348 dX6_init_32 rfl ?_
  refine J_aload_n rfl (i := 0) rfl dX6_init_35 ?_
  refine J_aload_n rfl (i := 2) rfl dX6_init_36 ?_
  refine J_putFrE (sh' := (List.set (SH.take 42) 0 (.inl (9, [some (some 1), some (some 4), some (some 13), some (some 22), some (some 31), some (some 32), some none, some none, some none, some none, none])))) kls_6 (q := 38) (k := 1) rfl (by decide) rfl rfl rfl rfl (fun _ => rfl) (fun _ => rfl) gw_349 dX6_init_37 rfl ?_
  exact J_finv rfl dX6_init_40 ⟨rfl, rfl⟩
set_option maxRecDepth 40000 in
set_option maxHeartbeats 4000000 in
theorem ci_X1_init_42 {G : Gx} {mm : Nat → Nat → Int32} {lm : Nat → Int64} (hz : Zf 43 mm) : Ct G M_X1_init [.ref 42, .ref 4, .ref 22] ((List.set (List.set (SH.take 43) 0 (.inl (9, [some (some 1), some (some 4), some (some 13), some (some 22), some (some 31), some (some 32), some (some 38), some none, some none, some none, none]))) 42 (.inl (1, [some none, some none, some none]))), mm, lm) true (.inl none) ((List.set (SH.take 44) 0 (.inl (9, [some (some 1), some (some 4), some (some 13), some (some 22), some (some 31), some (some 32), some (some 38), some none, some none, some none, none]))), mm, lm) true 1 1440 := by
  refine ct_of_J (by decide +kernel) rfl (by decide) ?_
  refine J_aload_n rfl (i := 0) rfl dX1_init_0 ?_
  refine J_objInit gw_369 gw_138 gw_139 (Nat.le_of_ble_eq_true rfl) (by decide) (by decide) dX1_init_1 ?_
  refine J_aload_n rfl (i := 0) rfl dX1_init_4 ?_
  refine J_sipush (v := 1440) (by decide) dX1_init_5 ?_
  refine J_newa (a := 0) (b := 0) (sh' := (List.set (List.set (SH.take 44) 0 (.inl (9, [some (some 1), some (some 4), some (some 13), some (some 22), some (some 31), some (some 32), some (some 38), some none, some none, some none, none]))) 42 (.inl (1, [some none, some none, some none])))) (atype := .boolean) (ty := .boolean) (t := 2) (N := 1440) rfl rfl 43 rfl (by decide) (fun j => hz 43 j (Nat.le_refl _)) (fun h => absurd h (by decide)) rfl (by decide) (by decide) (Nat.le_of_ble_eq_true rfl) (fun C h => by cases h) gw_381 dX1_init_8 rfl ?_
  refine J_putFrE (sh' := (List.set (List.set (SH.take 44) 0 (.inl (9, [some (some 1), some (some 4), some (some 13), some (some 22), some (some 31), some (some 32), some (some 38), some none, some none, some none, none]))) 42 (.inl (1, [some none, some none, some (some 43)])))) kls_1 (q := 42) (k := 2) rfl (by decide) rfl rfl rfl rfl (fun _ => rfl) (fun _ => rfl) gw_372 dX1_init_10 rfl ?_
  refine J_aload_n rfl (i := 0) rfl dX1_init_13 ?_
  refine J_aload_n rfl (i := 1) rfl dX1_init_14 ?_
  refine J_putFrE (sh' := (List.set (List.set (SH.take 44) 0 (.inl (9, [some (some 1), some (some 4), some (some 13), some (some 22), some (some 31), some (some 32), some (some 38), some none, some none, some none, none]))) 42 (.inl (1, [some (some 4), some none, some (some 43)])))) kls_1 (q := 42) (k := 0) rfl (by decide) rfl rfl rfl rfl (fun _ => rfl) (fun _ => rfl) gw_370 dX1_init_15 rfl ?_
  refine J_aload_n rfl (i := 0) rfl dX1_init_18 ?_
  refine J_aload_n rfl (i := 2) rfl dX1_init_19 ?_
  refine J_putFrE (sh' := (List.set (SH.take 44) 0 (.inl (9, [some (some 1), some (some 4), some (some 13), some (some 22), some (some 31), some (some 32), some (some 38), some none, some none, some none, none])))) kls_1 (q := 42) (k := 1) rfl (by decide) rfl rfl rfl rfl (fun _ => rfl) (fun _ => rfl) gw_371 dX1_init_20 rfl ?_
  exact J_finv rfl dX1_init_23 ⟨rfl, rfl⟩
set_option maxRecDepth 40000 in
set_option maxHeartbeats 4000000 in
theorem ci_X5_init_44 {G : Gx} {mm : Nat → Nat → Int32} {lm : Nat → Int64} (hz : Zf 45 mm) : Ct G M_X5_init [.ref 44, .ref 4, .ref 22] ((List.set (List.set (SH.take 45) 0 (.inl (9, [some (some 1), some (some 4), some (some 13), some (some 22), some (some 31), some (some 32), some (some 38), some (some 42), some none, some none, none]))) 44 (.inl (5, [some none, some none, some none, some none, some none, none]))), mm, lm) true (.inl none) ((List.set (SH.take 48) 0 (.inl (9, [some (some 1), some (some 4), some (some 13), some (some 22), some (some 31), some (some 32), some (some 38), some (some 42), some none, some none, none]))), mm, lm) true 3 768 := by
  refine ct_of_J (by decide +kernel) rfl (by decide) ?_
  refine J_aload_n rfl (i := 0) rfl dX5_init_0 ?_
  refine J_objInit gw_387 gw_138 gw_139 (Nat.le_of_ble_eq_true rfl) (by decide) (by decide) dX5_init_1 ?_
  refine J_aload_n rfl (i := 0) rfl dX5_init_4 ?_
  refine J_sipush (v := 256) (by decide) dX5_init_5 ?_
  refine J_newa (a := 2) (b := 512) (sh' := (List.set (List.set (SH.take 46) 0 (.inl (9, [some (some 1), some (some 4), some (some 13), some (some 22), some (some 31), some (some 32), some (some 38), some (some 42), some none, some none, none]))) 44 (.inl (5, [some none, some none, some none, some none, some none, none])))) (atype := .int) (ty := .int) (t := 0) (N := 256) rfl rfl 45 rfl (by decide) (fun j => hz 45 j (Nat.le_refl _)) (fun h => absurd h (by decide)) rfl (by decide) (by decide) (Nat.le_of_ble_eq_true rfl) (fun C h => by cases h) gw_177 dX5_init_8 rfl ?_
  refine J_putFrE (sh' := (List.set (List.set (SH.take 46) 0 (.inl (9, [some (some 1), some (some 4), some (some 13), some (some 22), some (some 31), some (some 32), some (some 38), some (some 42), some none, some none, none]))) 44 (.inl (5, [some none, some none, some (some 45), some none, some none, none])))) kls_5 (q := 44) (k := 2) rfl (by decide) rfl rfl rfl rfl (fun _ => rfl) (fun _ => rfl) gw_390 dX5_init_10 rfl ?_
  refine J_aload_n rfl (i := 0) rfl dX5_init_13 ?_
  refine J_sipush (v := 256) (by decide) dX5_init_14 ?_
  refine J_newa (a := 1) (b := 256) (sh' := (List.set (List.set (SH.take 47) 0 (.inl (9, [some (some 1), some (some 4), some (some 13), some (some 22), some (some 31), some (some 32), some (some 38), some (some 42), some none, some none, none]))) 44 (.inl (5, [some none, some none, some (some 45), some none, some none, none])))) (atype := .int) (ty := .int) (t := 0) (N := 256) rfl rfl 46 rfl (by decide) (fun j => (Zf.mono (by decide) hz) 46 j (Nat.le_refl _)) (fun h => absurd h (by decide)) rfl (by decide) (by decide) (Nat.le_of_ble_eq_true rfl) (fun C h => by cases h) gw_177 dX5_init_17 rfl ?_
  refine J_putFrE (sh' := (List.set (List.set (SH.take 47) 0 (.inl (9, [some (some 1), some (some 4), some (some 13), some (some 22), some (some 31), some (some 32), some (some 38), some (some 42), some none, some none, none]))) 44 (.inl (5, [some none, some none, some (some 45), some (some 46), some none, none])))) kls_5 (q := 44) (k := 3) rfl (by decide) rfl rfl rfl rfl (fun _ => rfl) (fun _ => rfl) gw_391 dX5_init_19 rfl ?_
  refine J_aload_n rfl (i := 0) rfl dX5_init_22 ?_
  refine J_sipush (v := 256) (by decide) dX5_init_23 ?_
  refine J_newa (a := 0) (b := 0) (sh' := (List.set (List.set (SH.take 48) 0 (.inl (9, [some (some 1), some (some 4), some (some 13), some (some 22), some (some 31), some (some 32), some (some 38), some (some 42), some none, some none, none]))) 44 (.inl (5, [some none, some none, some (some 45), some (some 46), some none, none])))) (atype := .int) (ty := .int) (t := 0) (N := 256) rfl rfl 47 rfl (by decide) (fun j => (Zf.mono (by decide) hz) 47 j (Nat.le_refl _)) (fun h => absurd h (by decide)) rfl (by decide) (by decide) (Nat.le_of_ble_eq_true rfl) (fun C h => by cases h) gw_177 dX5_init_26 rfl ?_
  refine J_putFrE (sh' := (List.set (List.set (SH.take 48) 0 (.inl (9, [some (some 1), some (some 4), some (some 13), some (some 22), some (some 31), some (some 32), some (some 38), some (some 42), some none, some none, none]))) 44 (.inl (5, [some none, some none, some (some 45), some (some 46), some (some 47), none])))) kls_5 (q := 44) (k := 4) rfl (by decide) rfl rfl rfl rfl (fun _ => rfl) (fun _ => rfl) gw_392 dX5_init_28 rfl ?_
  refine J_aload_n rfl (i := 0) rfl dX5_init_31 ?_
  refine J_aload_n rfl (i := 1) rfl dX5_init_32 ?_
  refine J_putFrE (sh' := (List.set (List.set (SH.take 48) 0 (.inl (9, [some (some 1), some (some 4), some (some 13), some (some 22), some (some 31), some (some 32), some (some 38), some (some 42), some none, some none, none]))) 44 (.inl (5, [some (some 4), some none, some (some 45), some (some 46), some (some 47), none])))) kls_5 (q := 44) (k := 0) rfl (by decide) rfl rfl rfl rfl (fun _ => rfl) (fun _ => rfl) gw_388 dX5_init_33 rfl ?_
  refine J_aload_n rfl (i := 0) rfl dX5_init_36 ?_
  refine J_aload_n rfl (i := 2) rfl dX5_init_37 ?_
  refine J_putFrE (sh' := (List.set (SH.take 48) 0 (.inl (9, [some (some 1), some (some 4), some (some 13), some (some 22), some (some 31), some (some 32), some (some 38), some (some 42), some none, some none, none])))) kls_5 (q := 44) (k := 1) rfl (by decide) rfl rfl rfl rfl (fun _ => rfl) (fun _ => rfl) gw_389 dX5_init_38 rfl ?_
  exact J_finv rfl dX5_init_41 ⟨rfl, rfl⟩
set_option maxRecDepth 40000 in
set_option maxHeartbeats 4000000 in
theorem ci_X3_init_48 {G : Gx} {mm : Nat → Nat → Int32} {lm : Nat → Int64} (hz : Zf 49 mm) : Ct G M_X3_init [.ref 48] ((List.set (List.set (SH.take 49) 0 (.inl (9, [some (some 1), some (some 4), some (some 13), some (some 22), some (some 31), some (some 32), some (some 38), some (some 42), some (some 44), some none, none]))) 48 (.inl (3, [some none, some none, none, none]))), mm, lm) true (.inl none) ((List.set (SH.take 63) 0 (.inl (9, [some (some 1), some (some 4), some (some 13), some (some 22), some (some 31), some (some 32), some (some 38), some (some 42), some (some 44), some none, none]))), (mset (mset (mset (mset (mset (mset (mset (mset (mset (mset (mset (mset (mset (mset (mset (mset (mset (mset (mset (mset (mset (mset (mset (mset mm 51 0 (-1)) 51 2 (-1)) 52 0 (-1)) 52 2 (-1)) 53 0 (-1)) 53 2 (-1)) 54 0 (-1)) 54 2 (-1)) 55 0 (-1)) 55 2 (-1)) 56 0 (-1)) 56 2 (-1)) 57 0 (-1)) 57 2 (-1)) 58 0 (-1)) 58 2 (-1)) 59 0 (-1)) 59 2 (-1)) 60 0 (-1)) 60 2 (-1)) 61 0 (-1)) 61 2 (-1)) 62 0 (-1)) 62 2 (-1)), lm) true 14 120 := by
  refine ct_of_J (by decide +kernel) rfl (by decide) ?_
  refine J_aload_n rfl (i := 0) rfl dX3_init_0 ?_
  refine J_objInit gw_412 gw_138 gw_139 (Nat.le_of_ble_eq_true rfl) (by decide) (by decide) dX3_init_1 ?_
  refine J_aload_n rfl (i := 0) rfl dX3_init_4 ?_
  refine J_bipush (v := 12) (by decide) dX3_init_5 ?_
  refine J_newa (a := 13) (b := 108) (sh' := (List.set (List.set (SH.take 50) 0 (.inl (9, [some (some 1), some (some 4), some (some 13), some (some 22), some (some 31), some (some 32), some (some 38), some (some 42), some (some 44), some none, none]))) 48 (.inl (3, [some none, some none, none, none])))) (atype := .int) (ty := .int) (t := 0) (N := 12) rfl rfl 49 rfl (by decide) (fun j => hz 49 j (Nat.le_refl _)) (fun h => absurd h (by decide)) rfl (by decide) (by decide) (Nat.le_of_ble_eq_true rfl) (fun C h => by cases h) gw_177 dX3_init_7 rfl ?_
  refine J_putFrE (sh' := (List.set (List.set (SH.take 50) 0 (.inl (9, [some (some 1), some (some 4), some (some 13), some (some 22), some (some 31), some (some 32), some (some 38), some (some 42), some (some 44), some none, none]))) 48 (.inl (3, [some (some 49), some none, none, none])))) kls_3 (q := 48) (k := 0) rfl (by decide) rfl rfl rfl rfl (fun _ => rfl) (fun _ => rfl) gw_415 dX3_init_9 rfl ?_
  refine J_aload_n rfl (i := 0) rfl dX3_init_12 ?_
  refine J_bipush (v := 12) (by decide) dX3_init_13 ?_
  refine J_newq (a := 12) (b := 96) (sh' := (List.set (List.set (List.set (SH.take 51) 0 (.inl (9, [some (some 1), some (some 4), some (some 13), some (some 22), some (some 31), some (some 32), some (some 38), some (some 42), some (some 44), some none, none]))) 48 (.inl (3, [some (some 49), some none, none, none]))) 50 (.inr (.inr (4, 12, fun j => if j < 0 then some (51 + j) else none))))) (v := 12) (N := 12) 50 rfl (by decide) (by decide) (by decide) (Nat.le_of_ble_eq_true rfl) (fun j => if j < 0 then some (51 + j) else none) (fun j => if_neg (Nat.not_lt_zero j)) gw_413 dX3_init_15 rfl ?_
  refine J_putFrE (sh' := (List.set (List.set (SH.take 51) 0 (.inl (9, [some (some 1), some (some 4), some (some 13), some (some 22), some (some 31), some (some 32), some (some 38), some (some 42), some (some 44), some none, none]))) 50 (.inr (.inr (4, 12, fun j => if j < 0 then some (51 + j) else none))))) kls_3 (q := 48) (k := 1) rfl (by decide) rfl rfl rfl rfl (fun _ => rfl) (fun _ => rfl) gw_416 dX3_init_18 rfl ?_
  refine J_iconst (v := 0) (by decide) dX3_init_21 ?_
  refine J_istore_n [(1, .int 0), (0, .ref 48)] rfl (i := 1) (by decide) rfl dX3_init_22 ?_
  refine J_iload_n rfl (i := 1) rfl dX3_init_23 ?_
  refine J_bipush (v := 12) (by decide) dX3_init_24 ?_
  refine J_icmp_ge (tgt := 48) dX3_init_26 (by decide) (fun h => absurd h (by decide)) (fun _ => ?_)
  refine J_aload_n rfl (i := 0) rfl dX3_init_29 ?_
  refine J_getr kls_3 (q := 48) (k := 1) (r := 50) rfl (by decide) rfl gw_416 dX3_init_30 ?_
  refine J_iload_n rfl (i := 1) rfl dX3_init_33 ?_
  refine J_new (a := 11) (b := 88) (sh' := (List.set (List.set (SH.take 52) 0 (.inl (9, [some (some 1), some (some 4), some (some 13), some (some 22), some (some 31), some (some 32), some (some 38), some (some 42), some (some 44), some none, none]))) 50 (.inr (.inr (4, 12, fun j => if j < 0 then some (51 + j) else none))))) kls_0 51 rfl (by decide) (fun j => (Zf.mono (by decide) hz) 51 j (Nat.le_refl _)) rfl gw_413 gw_244 gw_111 dX3_init_34 rfl ?_
  refine J_dupr dX3_init_37 ?_
  refine J_callI (as := []) (k := 51) (st := [.ref 51, .int 0, .ref 50]) (a1 := 0) (b1 := 0) (a2 := 11) (b2 := 88) cal_X0_init cii_X0_init rfl rfl gw_414 ⟨by decide, by decide⟩ cnt_X0_init rfl (Nat.le_of_ble_eq_true rfl) dX3_init_38 rfl rfl (ci_X0 rfl) ?_
  refine J_aast (j := 0) (r := 51 + 0) (f' := fun x => if x < 1 then some (51 + x) else none) (sh' := (List.set (List.set (SH.take 52) 0 (.inl (9, [some (some 1), some (some 4), some (some 13), some (some 22), some (some 31), some (some 32), some (some 38), some (some 42), some (some 44), some none, none]))) 50 (.inr (.inr (4, 12, fun j => if j < 1 then some (51 + j) else none))))) (q := 50) rfl rfl rfl (by decide) (by decide) (up_f 51 0) dX3_init_41 rfl ?_
  refine J_iinc [(1, .int 1), (0, .ref 48)] (i := 1) (v := 1) rfl (by decide) (by decide) rfl dX3_init_42 ?_
  refine J_goto (tgt := 23) dX3_init_45 (by decide) ?_
  refine J_iload_n rfl (i := 1) rfl dX3_init_23 ?_
  refine J_bipush (v := 12) (by decide) dX3_init_24 ?_
  refine J_icmp_ge (tgt := 48) dX3_init_26 (by decide) (fun h => absurd h (by decide)) (fun _ => ?_)
  refine J_aload_n rfl (i := 0) rfl dX3_init_29 ?_
  refine J_getr kls_3 (q := 48) (k := 1) (r := 50) rfl (by decide) rfl gw_416 dX3_init_30 ?_
  refine J_iload_n rfl (i := 1) rfl dX3_init_33 ?_
  refine J_new (a := 10) (b := 80) (sh' := (List.set (List.set (SH.take 53) 0 (.inl (9, [some (some 1), some (some 4), some (some 13), some (some 22), some (some 31), some (some 32), some (some 38), some (some 42), some (some 44), some none, none]))) 50 (.inr (.inr (4, 12, fun j => if j < 1 then some (51 + j) else none))))) kls_0 52 rfl (by decide) (fun j => (Zf.mset (Zf.mset (Zf.mono (by decide) hz) (by decide)) (by decide)) 52 j (Nat.le_refl _)) rfl gw_413 gw_244 gw_111 dX3_init_34 rfl ?_
  refine J_dupr dX3_init_37 ?_
  refine J_callI (as := []) (k := 52) (st := [.ref 52, .int 1, .ref 50]) (a1 := 0) (b1 := 0) (a2 := 10) (b2 := 80) cal_X0_init cii_X0_init rfl rfl gw_414 ⟨by decide, by decide⟩ cnt_X0_init rfl (Nat.le_of_ble_eq_true rfl) dX3_init_38 rfl rfl (ci_X0 rfl) ?_
  refine J_aast (j := 1) (r := 51 + 1) (f' := fun x => if x < 2 then some (51 + x) else none) (sh' := (List.set (List.set (SH.take 53) 0 (.inl (9, [some (some 1), some (some 4), some (some 13), some (some 22), some (some 31), some (some 32), some (some 38), some (some 42), some (some 44), some none, none]))) 50 (.inr (.inr (4, 12, fun j => if j < 2 then some (51 + j) else none))))) (q := 50) rfl rfl rfl (by decide) (by decide) (up_f 51 1) dX3_init_41 rfl ?_
  refine J_iinc [(1, .int 2), (0, .ref 48)] (i := 1) (v := 2) rfl (by decide) (by decide) rfl dX3_init_42 ?_
  refine J_goto (tgt := 23) dX3_init_45 (by decide) ?_
  refine J_iload_n rfl (i := 1) rfl dX3_init_23 ?_
  refine J_bipush (v := 12) (by decide) dX3_init_24 ?_
  refine J_icmp_ge (tgt := 48) dX3_init_26 (by decide) (fun h => absurd h (by decide)) (fun _ => ?_)
  refine J_aload_n rfl (i := 0) rfl dX3_init_29 ?_
  refine J_getr kls_3 (q := 48) (k := 1) (r := 50) rfl (by decide) rfl gw_416 dX3_init_30 ?_
  refine J_iload_n rfl (i := 1) rfl dX3_init_33 ?_
  refine J_new (a := 9) (b := 72) (sh' := (List.set (List.set (SH.take 54) 0 (.inl (9, [some (some 1), some (some 4), some (some 13), some (some 22), some (some 31), some (some 32), some (some 38), some (some 42), some (some 44), some none, none]))) 50 (.inr (.inr (4, 12, fun j => if j < 2 then some (51 + j) else none))))) kls_0 53 rfl (by decide) (fun j => (Zf.mset (Zf.mset (Zf.mset (Zf.mset (Zf.mono (by decide) hz) (by decide)) (by decide)) (by decide)) (by decide)) 53 j (Nat.le_refl _)) rfl gw_413 gw_244 gw_111 dX3_init_34 rfl ?_
  refine J_dupr dX3_init_37 ?_
  refine J_callI (as := []) (k := 53) (st := [.ref 53, .int 2, .ref 50]) (a1 := 0) (b1 := 0) (a2 := 9) (b2 := 72) cal_X0_init cii_X0_init rfl rfl gw_414 ⟨by decide, by decide⟩ cnt_X0_init rfl (Nat.le_of_ble_eq_true rfl) dX3_init_38 rfl rfl (ci_X0 rfl) ?_
  refine J_aast (j := 2) (r := 51 + 2) (f' := fun x => if x < 3 then some (51 + x) else none) (sh' := (List.set (List.set (SH.take 54) 0 (.inl (9, [some (some 1), some (some 4), some (some 13), some (some 22), some (some 31), some (some 32), some (some 38), some (some 42), some (some 44), some none, none]))) 50 (.inr (.inr (4, 12, fun j => if j < 3 then some (51 + j) else none))))) (q := 50) rfl rfl rfl (by decide) (by decide) (up_f 51 2) dX3_init_41 rfl ?_
  refine J_iinc [(1, .int 3), (0, .ref 48)] (i := 1) (v := 3) rfl (by decide) (by decide) rfl dX3_init_42 ?_
  refine J_goto (tgt := 23) dX3_init_45 (by decide) ?_
  refine J_iload_n rfl (i := 1) rfl dX3_init_23 ?_
  refine J_bipush (v := 12) (by decide) dX3_init_24 ?_
  refine J_icmp_ge (tgt := 48) dX3_init_26 (by decide) (fun h => absurd h (by decide)) (fun _ => ?_)
  refine J_aload_n rfl (i := 0) rfl dX3_init_29 ?_
  refine J_getr kls_3 (q := 48) (k := 1) (r := 50) rfl (by decide) rfl gw_416 dX3_init_30 ?_
  refine J_iload_n rfl (i := 1) rfl dX3_init_33 ?_
  refine J_new (a := 8) (b := 64) (sh' := (List.set (List.set (SH.take 55) 0 (.inl (9, [some (some 1), some (some 4), some (some 13), some (some 22), some (some 31), some (some 32), some (some 38), some (some 42), some (some 44), some none, none]))) 50 (.inr (.inr (4, 12, fun j => if j < 3 then some (51 + j) else none))))) kls_0 54 rfl (by decide) (fun j => (Zf.mset (Zf.mset (Zf.mset (Zf.mset (Zf.mset (Zf.mset (Zf.mono (by decide) hz) (by decide)) (by decide)) (by decide)) (by decide)) (by decide)) (by decide)) 54 j (Nat.le_refl _)) rfl gw_413 gw_244 gw_111 dX3_init_34 rfl ?_
  refine J_dupr dX3_init_37 ?_
  refine J_callI (as := []) (k := 54) (st := [.ref 54, .int 3, .ref 50]) (a1 := 0) (b1 := 0) (a2 := 8) (b2 := 64) cal_X0_init cii_X0_init rfl rfl gw_414 ⟨by decide, by decide⟩ cnt_X0_init rfl (Nat.le_of_ble_eq_true rfl) dX3_init_38 rfl rfl (ci_X0 rfl) ?_
  refine J_aast (j := 3) (r := 51 + 3) (f' := fun x => if x < 4 then some (51 + x) else none) (sh' := (List.set (List.set (SH.take 55) 0 (.inl (9, [some (some 1), some (some 4), some (some 13), some (some 22), some (some 31), some (some 32), some (some 38), some (some 42), some (some 44), some none, none]))) 50 (.inr (.inr (4, 12, fun j => if j < 4 then some (51 + j) else none))))) (q := 50) rfl rfl rfl (by decide) (by decide) (up_f 51 3) dX3_init_41 rfl ?_
  refine J_iinc [(1, .int 4), (0, .ref 48)] (i := 1) (v := 4) rfl (by decide) (by decide) rfl dX3_init_42 ?_
  refine J_goto (tgt := 23) dX3_init_45 (by decide) ?_
  refine J_iload_n rfl (i := 1) rfl dX3_init_23 ?_
  refine J_bipush (v := 12) (by decide) dX3_init_24 ?_
  refine J_icmp_ge (tgt := 48) dX3_init_26 (by decide) (fun h => absurd h (by decide)) (fun _ => ?_)
  refine J_aload_n rfl (i := 0) rfl dX3_init_29 ?_
  refine J_getr kls_3 (q := 48) (k := 1) (r := 50) rfl (by decide) rfl gw_416 dX3_init_30 ?_
  refine J_iload_n rfl (i := 1) rfl dX3_init_33 ?_
  refine J_new (a := 7) (b := 56) (sh' := (List.set (List.set (SH.take 56) 0 (.inl (9, [some (some 1), some (some 4), some (some 13), some (some 22), some (some 31), some (some 32), some (some 38), some (some 42), some (some 44), some none, none]))) 50 (.inr (.inr (4, 12, fun j => if j < 4 then some (51 + j) else none))))) kls_0 55 rfl (by decide) (fun j => (Zf.mset (Zf.mset (Zf.mset (Zf.mset (Zf.mset (Zf.mset (Zf.mset (Zf.mset (Zf.mono (by decide) hz) (by decide)) (by decide)) (by decide)) (by decide)) (by decide)) (by decide)) (by decide)) (by decide)) 55 j (Nat.le_refl _)) rfl gw_413 gw_244 gw_111 dX3_init_34 rfl ?_
  refine J_dupr dX3_init_37 ?_
  refine J_callI (as := []) (k := 55) (st := [.ref 55, .int 4, .ref 50]) (a1 := 0) (b1 := 0) (a2 := 7) (b2 := 56) cal_X0_init cii_X0_init rfl rfl gw_414 ⟨by decide, by decide⟩ cnt_X0_init rfl (Nat.le_of_ble_eq_true rfl) dX3_init_38 rfl rfl (ci_X0 rfl) ?_
  refine J_aast (j := 4) (r := 51 + 4) (f' := fun x => if x < 5 then some (51 + x) else none) (sh' := (List.set (List.set (SH.take 56) 0 (.inl (9, [some (some 1), some (some 4), some (some 13), some (some 22), some (some 31), some (some 32), some (some 38), some (some 42), some (some 44), some none, none]))) 50 (.inr (.inr (4, 12, fun j => if j < 5 then some (51 + j) else none))))) (q := 50) rfl rfl rfl (by decide) (by decide) (up_f 51 4) dX3_init_41 rfl ?_
  refine J_iinc [(1, .int 5), (0, .ref 48)] (i := 1) (v := 5) rfl (by decide) (by decide) rfl dX3_init_42 ?_
  refine J_goto (tgt := 23) dX3_init_45 (by decide) ?_
  refine J_iload_n rfl (i := 1) rfl dX3_init_23 ?_
  refine J_bipush (v := 12) (by decide) dX3_init_24 ?_
  refine J_icmp_ge (tgt := 48) dX3_init_26 (by decide) (fun h => absurd h (by decide)) (fun _ => ?_)
  refine J_aload_n rfl (i := 0) rfl dX3_init_29 ?_
  refine J_getr kls_3 (q := 48) (k := 1) (r := 50) rfl (by decide) rfl gw_416 dX3_init_30 ?_
  refine J_iload_n rfl (i := 1) rfl dX3_init_33 ?_
  refine J_new (a := 6) (b := 48) (sh' := (List.set (List.set (SH.take 57) 0 (.inl (9, [some (some 1), some (some 4), some (some 13), some (some 22), some (some 31), some (some 32), some (some 38), some (some 42), some (some 44), some none, none]))) 50 (.inr (.inr (4, 12, fun j => if j < 5 then some (51 + j) else none))))) kls_0 56 rfl (by decide) (fun j => (Zf.mset (Zf.mset (Zf.mset (Zf.mset (Zf.mset (Zf.mset (Zf.mset (Zf.mset (Zf.mset (Zf.mset (Zf.mono (by decide) hz) (by decide)) (by decide)) (by decide)) (by decide)) (by decide)) (by decide)) (by decide)) (by decide)) (by decide)) (by decide)) 56 j (Nat.le_refl _)) rfl gw_413 gw_244 gw_111 dX3_init_34 rfl ?_
  refine J_dupr dX3_init_37 ?_
  refine J_callI (as := []) (k := 56) (st := [.ref 56, .int 5, .ref 50]) (a1 := 0) (b1 := 0) (a2 := 6) (b2 := 48) cal_X0_init cii_X0_init rfl rfl gw_414 ⟨by decide, by decide⟩ cnt_X0_init rfl (Nat.le_of_ble_eq_true rfl) dX3_init_38 rfl rfl (ci_X0 rfl) ?_
  refine J_aast (j := 5) (r := 51 + 5) (f' := fun x => if x < 6 then some (51 + x) else none) (sh' := (List.set (List.set (SH.take 57) 0 (.inl (9, [some (some 1), some (some 4), some (some 13), some (some 22), some (some 31), some (some 32), some (some 38), some (some 42), some (some 44), some none, none]))) 50 (.inr (.inr (4, 12, fun j => if j < 6 then some (51 + j) else none))))) (q := 50) rfl rfl rfl (by decide) (by decide) (up_f 51 5) dX3_init_41 rfl ?_
  refine J_iinc [(1, .int 6), (0, .ref 48)] (i := 1) (v := 6) rfl (by decide) (by decide) rfl dX3_init_42 ?_
  refine J_goto (tgt := 23) dX3_init_45 (by decide) ?_
  refine J_iload_n rfl (i := 1) rfl dX3_init_23 ?_
  refine J_bipush (v := 12) (by decide) dX3_init_24 ?_
  refine J_icmp_ge (tgt := 48) dX3_init_26 (by decide) (fun h => absurd h (by decide)) (fun _ => ?_)
  refine J_aload_n rfl (i := 0) rfl dX3_init_29 ?_
  refine J_getr kls_3 (q := 48) (k := 1) (r := 50) rfl (by decide) rfl gw_416 dX3_init_30 ?_
  refine J_iload_n rfl (i := 1) rfl dX3_init_33 ?_
  refine J_new (a := 5) (b := 40) (sh' := (List.set (List.set (SH.take 58) 0 (.inl (9, [some (some 1), some (some 4), some (some 13), some (some 22), some (some 31), some (some 32), some (some 38), some (some 42), some (some 44), some none, none]))) 50 (.inr (.inr (4, 12, fun j => if j < 6 then some (51 + j) else none))))) kls_0 57 rfl (by decide) (fun j => (Zf.mset (Zf.mset (Zf.mset (Zf.mset (Zf.mset (Zf.mset (Zf.mset (Zf.mset (Zf.mset (Zf.mset (Zf.mset (Zf.mset (Zf.mono (by decide) hz) (by decide)) (by decide)) (by decide)) (by decide)) (by decide)) (by decide)) (by decide)) (by decide)) (by decide)) (by decide)) (by decide)) (by decide)) 57 j (Nat.le_refl _)) rfl gw_413 gw_244 gw_111 dX3_init_34 rfl ?_
  refine J_dupr dX3_init_37 ?_
  refine J_callI (as := []) (k := 57) (st := [.ref 57, .int 6, .ref 50]) (a1 := 0) (b1 := 0) (a2 := 5) (b2 := 40) cal_X0_init cii_X0_init rfl rfl gw_414 ⟨by decide, by decide⟩ cnt_X0_init rfl (Nat.le_of_ble_eq_true rfl) dX3_init_38 rfl rfl (ci_X0 rfl) ?_
  refine J_aast (j := 6) (r := 51 + 6) (f' := fun x => if x < 7 then some (51 + x) else none) (sh' := (List.set (List.set (SH.take 58) 0 (.inl (9, [some (some 1), some (some 4), some (some 13), some (some 22), some (some 31), some (some 32), some (some 38), some (some 42), some (some 44), some none, none]))) 50 (.inr (.inr (4, 12, fun j => if j < 7 then some (51 + j) else none))))) (q := 50) rfl rfl rfl (by decide) (by decide) (up_f 51 6) dX3_init_41 rfl ?_
  refine J_iinc [(1, .int 7), (0, .ref 48)] (i := 1) (v := 7) rfl (by decide) (by decide) rfl dX3_init_42 ?_
  refine J_goto (tgt := 23) dX3_init_45 (by decide) ?_
  refine J_iload_n rfl (i := 1) rfl dX3_init_23 ?_
  refine J_bipush (v := 12) (by decide) dX3_init_24 ?_
  refine J_icmp_ge (tgt := 48) dX3_init_26 (by decide) (fun h => absurd h (by decide)) (fun _ => ?_)
  refine J_aload_n rfl (i := 0) rfl dX3_init_29 ?_
  refine J_getr kls_3 (q := 48) (k := 1) (r := 50) rfl (by decide) rfl gw_416 dX3_init_30 ?_
  refine J_iload_n rfl (i := 1) rfl dX3_init_33 ?_
  refine J_new (a := 4) (b := 32) (sh' := (List.set (List.set (SH.take 59) 0 (.inl (9, [some (some 1), some (some 4), some (some 13), some (some 22), some (some 31), some (some 32), some (some 38), some (some 42), some (some 44), some none, none]))) 50 (.inr (.inr (4, 12, fun j => if j < 7 then some (51 + j) else none))))) kls_0 58 rfl (by decide) (fun j => (Zf.mset (Zf.mset (Zf.mset (Zf.mset (Zf.mset (Zf.mset (Zf.mset (Zf.mset (Zf.mset (Zf.mset (Zf.mset (Zf.mset (Zf.mset (Zf.mset (Zf.mono (by decide) hz) (by decide)) (by decide)) (by decide)) (by decide)) (by decide)) (by decide)) (by decide)) (by decide)) (by decide)) (by decide)) (by decide)) (by decide)) (by decide)) (by decide)) 58 j (Nat.le_refl _)) rfl gw_413 gw_244 gw_111 dX3_init_34 rfl ?_
  refine J_dupr dX3_init_37 ?_
  refine J_callI (as := []) (k := 58) (st := [.ref 58, .int 7, .ref 50]) (a1 := 0) (b1 := 0) (a2 := 4) (b2 := 32) cal_X0_init cii_X0_init rfl rfl gw_414 ⟨by decide, by decide⟩ cnt_X0_init rfl (Nat.le_of_ble_eq_true rfl) dX3_init_38 rfl rfl (ci_X0 rfl) ?_
  refine J_aast (j := 7) (r := 51 + 7) (f' := fun x => if x < 8 then some (51 + x) else none) (sh' := (List.set (List.set (SH.take 59) 0 (.inl (9, [some (some 1), some (some 4), some (some 13), some (some 22), some (some 31), some (some 32), some (some 38), some (some 42), some (some 44), some none, none]))) 50 (.inr (.inr (4, 12, fun j => if j < 8 then some (51 + j) else none))))) (q := 50) rfl rfl rfl (by decide) (by decide) (up_f 51 7) dX3_init_41 rfl ?_
  refine J_iinc [(1, .int 8), (0, .ref 48)] (i := 1) (v := 8) rfl (by decide) (by decide) rfl dX3_init_42 ?_
  refine J_goto (tgt := 23) dX3_init_45 (by decide) ?_
  refine J_iload_n rfl (i := 1) rfl dX3_init_23 ?_
  refine J_bipush (v := 12) (by decide) dX3_init_24 ?_
  refine J_icmp_ge (tgt := 48) dX3_init_26 (by decide) (fun h => absurd h (by decide)) (fun _ => ?_)
  refine J_aload_n rfl (i := 0) rfl dX3_init_29 ?_
  refine J_getr kls_3 (q := 48) (k := 1) (r := 50) rfl (by decide) rfl gw_416 dX3_init_30 ?_
  refine J_iload_n rfl (i := 1) rfl dX3_init_33 ?_
  refine J_new (a := 3) (b := 24) (sh' := (List.set (List.set (SH.take 60) 0 (.inl (9, [some (some 1), some (some 4), some (some 13), some (some 22), some (some 31), some (some 32), some (some 38), some (some 42), some (some 44), some none, none]))) 50 (.inr (.inr (4, 12, fun j => if j < 8 then some (51 + j) else none))))) kls_0 59 rfl (by decide) (fun j => (Zf.mset (Zf.mset (Zf.mset (Zf.mset (Zf.mset (Zf.mset (Zf.mset (Zf.mset (Zf.mset (Zf.mset (Zf.mset (Zf.mset (Zf.mset (Zf.mset (Zf.mset (Zf.mset (Zf.mono (by decide) hz) (by decide)) (by decide)) (by decide)) (by decide)) (by decide)) (by decide)) (by decide)) (by decide)) (by decide)) (by decide)) (by decide)) (by decide)) (by decide)) (by decide)) (by decide)) (by decide)) 59 j (Nat.le_refl _)) rfl gw_413 gw_244 gw_111 dX3_init_34 rfl ?_
  refine J_dupr dX3_init_37 ?_
  refine J_callI (as := []) (k := 59) (st := [.ref 59, .int 8, .ref 50]) (a1 := 0) (b1 := 0) (a2 := 3) (b2 := 24) cal_X0_init cii_X0_init rfl rfl gw_414 ⟨by decide, by decide⟩ cnt_X0_init rfl (Nat.le_of_ble_eq_true rfl) dX3_init_38 rfl rfl (ci_X0 rfl) ?_
  refine J_aast (j := 8) (r := 51 + 8) (f' := fun x => if x < 9 then some (51 + x) else none) (sh' := (List.set (List.set (SH.take 60) 0 (.inl (9, [some (some 1), some (some 4), some (some 13), some (some 22), some (some 31), some (some 32), some (some 38), some (some 42), some (some 44), some none, none]))) 50 (.inr (.inr (4, 12, fun j => if j < 9 then some (51 + j) else none))))) (q := 50) rfl rfl rfl (by decide) (by decide) (up_f 51 8) dX3_init_41 rfl ?_
  refine J_iinc [(1, .int 9), (0, .ref 48)] (i := 1) (v := 9) rfl (by decide) (by decide) rfl dX3_init_42 ?_
  refine J_goto (tgt := 23) dX3_init_45 (by decide) ?_
  refine J_iload_n rfl (i := 1) rfl dX3_init_23 ?_
  refine J_bipush (v := 12) (by decide) dX3_init_24 ?_
  refine J_icmp_ge (tgt := 48) dX3_init_26 (by decide) (fun h => absurd h (by decide)) (fun _ => ?_)
  refine J_aload_n rfl (i := 0) rfl dX3_init_29 ?_
  refine J_getr kls_3 (q := 48) (k := 1) (r := 50) rfl (by decide) rfl gw_416 dX3_init_30 ?_
  refine J_iload_n rfl (i := 1) rfl dX3_init_33 ?_
  refine J_new (a := 2) (b := 16) (sh' := (List.set (List.set (SH.take 61) 0 (.inl (9, [some (some 1), some (some 4), some (some 13), some (some 22), some (some 31), some (some 32), some (some 38), some (some 42), some (some 44), some none, none]))) 50 (.inr (.inr (4, 12, fun j => if j < 9 then some (51 + j) else none))))) kls_0 60 rfl (by decide) (fun j => (Zf.mset (Zf.mset (Zf.mset (Zf.mset (Zf.mset (Zf.mset (Zf.mset (Zf.mset (Zf.mset (Zf.mset (Zf.mset (Zf.mset (Zf.mset (Zf.mset (Zf.mset (Zf.mset (Zf.mset (Zf.mset (Zf.mono (by decide) hz) (by decide)) (by decide)) (by decide)) (by decide)) (by decide)) (by decide)) (by decide)) (by decide)) (by decide)) (by decide)) (by decide)) (by decide)) (by decide)) (by decide)) (by decide)) (by decide)) (by decide)) (by decide)) 60 j (Nat.le_refl _)) rfl gw_413 gw_244 gw_111 dX3_init_34 rfl ?_
  refine J_dupr dX3_init_37 ?_
  refine J_callI (as := []) (k := 60) (st := [.ref 60, .int 9, .ref 50]) (a1 := 0) (b1 := 0) (a2 := 2) (b2 := 16) cal_X0_init cii_X0_init rfl rfl gw_414 ⟨by decide, by decide⟩ cnt_X0_init rfl (Nat.le_of_ble_eq_true rfl) dX3_init_38 rfl rfl (ci_X0 rfl) ?_
  refine J_aast (j := 9) (r := 51 + 9) (f' := fun x => if x < 10 then some (51 + x) else none) (sh' := (List.set (List.set (SH.take 61) 0 (.inl (9, [some (some 1), some (some 4), some (some 13), some (some 22), some (some 31), some (some 32), some (some 38), some (some 42), some (some 44), some none, none]))) 50 (.inr (.inr (4, 12, fun j => if j < 10 then some (51 + j) else none))))) (q := 50) rfl rfl rfl (by decide) (by decide) (up_f 51 9) dX3_init_41 rfl ?_
  refine J_iinc [(1, .int 10), (0, .ref 48)] (i := 1) (v := 10) rfl (by decide) (by decide) rfl dX3_init_42 ?_
  refine J_goto (tgt := 23) dX3_init_45 (by decide) ?_
  refine J_iload_n rfl (i := 1) rfl dX3_init_23 ?_
  refine J_bipush (v := 12) (by decide) dX3_init_24 ?_
  refine J_icmp_ge (tgt := 48) dX3_init_26 (by decide) (fun h => absurd h (by decide)) (fun _ => ?_)
  refine J_aload_n rfl (i := 0) rfl dX3_init_29 ?_
  refine J_getr kls_3 (q := 48) (k := 1) (r := 50) rfl (by decide) rfl gw_416 dX3_init_30 ?_
  refine J_iload_n rfl (i := 1) rfl dX3_init_33 ?_
  refine J_new (a := 1) (b := 8) (sh' := (List.set (List.set (SH.take 62) 0 (.inl (9, [some (some 1), some (some 4), some (some 13), some (some 22), some (some 31), some (some 32), some (some 38), some (some 42), some (some 44), some none, none]))) 50 (.inr (.inr (4, 12, fun j => if j < 10 then some (51 + j) else none))))) kls_0 61 rfl (by decide) (fun j => (Zf.mset (Zf.mset (Zf.mset (Zf.mset (Zf.mset (Zf.mset (Zf.mset (Zf.mset (Zf.mset (Zf.mset (Zf.mset (Zf.mset (Zf.mset (Zf.mset (Zf.mset (Zf.mset (Zf.mset (Zf.mset (Zf.mset (Zf.mset (Zf.mono (by decide) hz) (by decide)) (by decide)) (by decide)) (by decide)) (by decide)) (by decide)) (by decide)) (by decide)) (by decide)) (by decide)) (by decide)) (by decide)) (by decide)) (by decide)) (by decide)) (by decide)) (by decide)) (by decide)) (by decide)) (by decide)) 61 j (Nat.le_refl _)) rfl gw_413 gw_244 gw_111 dX3_init_34 rfl ?_
  refine J_dupr dX3_init_37 ?_
  refine J_callI (as := []) (k := 61) (st := [.ref 61, .int 10, .ref 50]) (a1 := 0) (b1 := 0) (a2 := 1) (b2 := 8) cal_X0_init cii_X0_init rfl rfl gw_414 ⟨by decide, by decide⟩ cnt_X0_init rfl (Nat.le_of_ble_eq_true rfl) dX3_init_38 rfl rfl (ci_X0 rfl) ?_
  refine J_aast (j := 10) (r := 51 + 10) (f' := fun x => if x < 11 then some (51 + x) else none) (sh' := (List.set (List.set (SH.take 62) 0 (.inl (9, [some (some 1), some (some 4), some (some 13), some (some 22), some (some 31), some (some 32), some (some 38), some (some 42), some (some 44), some none, none]))) 50 (.inr (.inr (4, 12, fun j => if j < 11 then some (51 + j) else none))))) (q := 50) rfl rfl rfl (by decide) (by decide) (up_f 51 10) dX3_init_41 rfl ?_
  refine J_iinc [(1, .int 11), (0, .ref 48)] (i := 1) (v := 11) rfl (by decide) (by decide) rfl dX3_init_42 ?_
  refine J_goto (tgt := 23) dX3_init_45 (by decide) ?_
  refine J_iload_n rfl (i := 1) rfl dX3_init_23 ?_
  refine J_bipush (v := 12) (by decide) dX3_init_24 ?_
  refine J_icmp_ge (tgt := 48) dX3_init_26 (by decide) (fun h => absurd h (by decide)) (fun _ => ?_)
  refine J_aload_n rfl (i := 0) rfl dX3_init_29 ?_
  refine J_getr kls_3 (q := 48) (k := 1) (r := 50) rfl (by decide) rfl gw_416 dX3_init_30 ?_
  refine J_iload_n rfl (i := 1) rfl dX3_init_33 ?_
  refine J_new (a := 0) (b := 0) (sh' := (List.set (List.set (SH.take 63) 0 (.inl (9, [some (some 1), some (some 4), some (some 13), some (some 22), some (some 31), some (some 32), some (some 38), some (some 42), some (some 44), some none, none]))) 50 (.inr (.inr (4, 12, fun j => if j < 11 then some (51 + j) else none))))) kls_0 62 rfl (by decide) (fun j => (Zf.mset (Zf.mset (Zf.mset (Zf.mset (Zf.mset (Zf.mset (Zf.mset (Zf.mset (Zf.mset (Zf.mset (Zf.mset (Zf.mset (Zf.mset (Zf.mset (Zf.mset (Zf.mset (Zf.mset (Zf.mset (Zf.mset (Zf.mset (Zf.mset (Zf.mset (Zf.mono (by decide) hz) (by decide)) (by decide)) (by decide)) (by decide)) (by decide)) (by decide)) (by decide)) (by decide)) (by decide)) (by decide)) (by decide)) (by decide)) (by decide)) (by decide)) (by decide)) (by decide)) (by decide)) (by decide)) (by decide)) (by decide)) (by decide)) (by decide)) 62 j (Nat.le_refl _)) rfl gw_413 gw_244 gw_111 dX3_init_34 rfl ?_
  refine J_dupr dX3_init_37 ?_
  refine J_callI (as := []) (k := 62) (st := [.ref 62, .int 11, .ref 50]) (a1 := 0) (b1 := 0) (a2 := 0) (b2 := 0) cal_X0_init cii_X0_init rfl rfl gw_414 ⟨by decide, by decide⟩ cnt_X0_init rfl (Nat.le_of_ble_eq_true rfl) dX3_init_38 rfl rfl (ci_X0 rfl) ?_
  refine J_aast (j := 11) (r := 51 + 11) (f' := fun x => if x < 12 then some (51 + x) else none) (sh' := (List.set (SH.take 63) 0 (.inl (9, [some (some 1), some (some 4), some (some 13), some (some 22), some (some 31), some (some 32), some (some 38), some (some 42), some (some 44), some none, none])))) (q := 50) rfl rfl rfl (by decide) (by decide) (up_f 51 11) dX3_init_41 rfl ?_
  refine J_iinc [(1, .int 12), (0, .ref 48)] (i := 1) (v := 12) rfl (by decide) (by decide) rfl dX3_init_42 ?_
  refine J_goto (tgt := 23) dX3_init_45 (by decide) ?_
  refine J_iload_n rfl (i := 1) rfl dX3_init_23 ?_
  refine J_bipush (v := 12) (by decide) dX3_init_24 ?_
  refine J_icmp_ge (tgt := 48) dX3_init_26 (by decide) (fun _ => ?_) (fun h => absurd (by decide) h)
  exact J_finv rfl dX3_init_48 ⟨rfl, rfl⟩
set_option maxRecDepth 40000 in
set_option maxHeartbeats 4000000 in
theorem ci_X9_init_0 {G : Gx} {mm : Nat → Nat → Int32} {lm : Nat → Int64} (hz : Zf 1 mm) : Ct G M_X9_init [.ref 0] ((List.set (SH.take 1) 0 (.inl (9, [some none, some none, some none, some none, some none, some none, some none, some none, some none, some none, none]))), mm, lm) true (.inl none) ((SH.take 63), (mset (mset (mset (mset (mset (mset (mset (mset (mset (mset (mset (mset (mset (mset (mset (mset (mset (mset (mset (mset (mset (mset (mset (mset (mset (mset (mset (mset (mset (mset (mset (mset (mset (mset (mset (mset (mset (mset (mset (mset (mset (mset mm 1 3 (-1)) 23 0 (-1)) 23 2 (-1)) 24 0 (-1)) 24 2 (-1)) 25 0 (-1)) 25 2 (-1)) 26 0 (-1)) 26 2 (-1)) 27 0 (-1)) 27 2 (-1)) 28 0 (-1)) 28 2 (-1)) 29 0 (-1)) 29 2 (-1)) 30 0 (-1)) 30 2 (-1)) 51 0 (-1)) 51 2 (-1)) 52 0 (-1)) 52 2 (-1)) 53 0 (-1)) 53 2 (-1)) 54 0 (-1)) 54 2 (-1)) 55 0 (-1)) 55 2 (-1)) 56 0 (-1)) 56 2 (-1)) 57 0 (-1)) 57 2 (-1)) 58 0 (-1)) 58 2 (-1)) 59 0 (-1)) 59 2 (-1)) 60 0 (-1)) 60 2 (-1)) 61 0 (-1)) 61 2 (-1)) 62 0 (-1)) 62 2 (-1)) 0 10 0), lm) true 62 18119 := by
  refine ct_of_J (by decide +kernel) rfl (by decide) ?_
  refine J_aload_n rfl (i := 0) rfl dX9_init_0 ?_
  refine J_objInit gw_137 gw_138 gw_139 (Nat.le_of_ble_eq_true rfl) (by decide) (by decide) dX9_init_1 ?_
  refine J_aload_n rfl (i := 0) rfl dX9_init_4 ?_
  refine J_new (a := 61) (b := 18110) (sh' := (List.set (List.set (SH.take 2) 0 (.inl (9, [some none, some none, some none, some none, some none, some none, some none, some none, some none, some none, none]))) 1 (.inl (8, [some none, some none, none, none, none, none, none, none, none])))) kls_8 1 rfl (by decide) (fun j => hz 1 j (Nat.le_refl _)) rfl gw_140 gw_141 gw_109 dX9_init_5 rfl ?_
  refine J_dupr dX9_init_8 ?_
  refine J_callIN (List.mem_of_getElem? (i := 0) rfl) (as := []) (k := 1) (st := [.ref 1, .ref 0]) (a1 := 2) (b1 := 403) (a2 := 59) (b2 := 17707) cal_X8_init cii_X8_init rfl rfl ⟨by decide, by decide⟩ cnt_X8_init rfl (Nat.le_of_ble_eq_true rfl) dX9_init_9 rfl rfl (ci_X8_init_1 (Zf.mono (by decide) hz)) ?_ rfl
  refine J_putFrE (sh' := (List.set (SH.take 4) 0 (.inl (9, [some (some 1), some none, some none, some none, some none, some none, some none, some none, some none, some none, none])))) kls_9 (q := 0) (k := 0) rfl (by decide) rfl rfl rfl rfl (fun _ => rfl) (fun _ => rfl) gw_429 dX9_init_12 rfl ?_
  refine J_aload_n rfl (i := 0) rfl dX9_init_15 ?_
  refine J_new (a := 58) (b := 17695) (sh' := (List.set (List.set (SH.take 5) 0 (.inl (9, [some (some 1), some none, some none, some none, some none, some none, some none, some none, some none, some none, none]))) 4 (.inl (7, [some none, some none, some none, some none, some none, some none, some none, some none, none, none, none, none])))) kls_7 4 rfl (by decide) (fun j => (Zf.mset (Zf.mono (by decide) hz) (by decide)) 4 j (Nat.le_refl _)) rfl gw_178 gw_179 gw_110 dX9_init_16 rfl ?_
  refine J_dupr dX9_init_19 ?_
  refine J_callIN (List.mem_of_getElem? (i := 1) rfl) (as := []) (k := 4) (st := [.ref 4, .ref 0]) (a1 := 8) (b1 := 52) (a2 := 50) (b2 := 17643) cal_X7_init cii_X7_init rfl rfl ⟨by decide, by decide⟩ cnt_X7_init rfl (Nat.le_of_ble_eq_true rfl) dX9_init_20 rfl rfl (ci_X7_init_4 (Zf.mset (Zf.mono (by decide) hz) (by decide))) ?_ rfl
  refine J_putFrE (sh' := (List.set (SH.take 13) 0 (.inl (9, [some (some 1), some (some 4), some none, some none, some none, some none, some none, some none, some none, some none, none])))) kls_9 (q := 0) (k := 1) rfl (by decide) rfl rfl rfl rfl (fun _ => rfl) (fun _ => rfl) gw_430 dX9_init_23 rfl ?_
  refine J_aload_n rfl (i := 0) rfl dX9_init_26 ?_
  refine J_new (a := 49) (b := 17631) (sh' := (List.set (List.set (SH.take 14) 0 (.inl (9, [some (some 1), some (some 4), some none, some none, some none, some none, some none, some none, some none, some none, none]))) 13 (.inl (7, [some none, some none, some none, some none, some none, some none, some none, some none, none, none, none, none])))) kls_7 13 rfl (by decide) (fun j => (Zf.mset (Zf.mono (by decide) hz) (by decide)) 13 j (Nat.le_refl _)) rfl gw_178 gw_179 gw_110 dX9_init_27 rfl ?_
  refine J_dupr dX9_init_30 ?_
  refine J_callIN (List.mem_of_getElem? (i := 1) rfl) (as := []) (k := 13) (st := [.ref 13, .ref 0]) (a1 := 8) (b1 := 52) (a2 := 41) (b2 := 17579) cal_X7_init cii_X7_init rfl rfl ⟨by decide, by decide⟩ cnt_X7_init rfl (Nat.le_of_ble_eq_true rfl) dX9_init_31 rfl rfl (ci_X7_init_13 (Zf.mset (Zf.mono (by decide) hz) (by decide))) ?_ rfl
  refine J_putFrE (sh' := (List.set (SH.take 22) 0 (.inl (9, [some (some 1), some (some 4), some (some 13), some none, some none, some none, some none, some none, some none, some none, none])))) kls_9 (q := 0) (k := 2) rfl (by decide) rfl rfl rfl rfl (fun _ => rfl) (fun _ => rfl) gw_431 dX9_init_34 rfl ?_
  refine J_aload_n rfl (i := 0) rfl dX9_init_37 ?_
  refine J_bipush (v := 8) (by decide) dX9_init_38 ?_
  refine J_newq (a := 40) (b := 17571) (sh' := (List.set (List.set (SH.take 23) 0 (.inl (9, [some (some 1), some (some 4), some (some 13), some none, some none, some none, some none, some none, some none, some none, none]))) 22 (.inr (.inr (4, 8, fun j => if j < 0 then some (23 + j) else none))))) (v := 8) (N := 8) 22 rfl (by decide) (by decide) (by decide) (Nat.le_of_ble_eq_true rfl) (fun j => if j < 0 then some (23 + j) else none) (fun j => if_neg (Nat.not_lt_zero j)) gw_242 dX9_init_40 rfl ?_
  refine J_putFrE (sh' := (List.set (List.set (SH.take 23) 0 (.inl (9, [some (some 1), some (some 4), some (some 13), some (some 22), some none, some none, some none, some none, some none, some none, none]))) 22 (.inr (.inr (4, 8, fun j => if j < 0 then some (23 + j) else none))))) kls_9 (q := 0) (k := 3) rfl (by decide) rfl rfl rfl rfl (fun _ => rfl) (fun _ => rfl) gw_432 dX9_init_43 rfl ?_
  refine J_iconst (v := 0) (by decide) dX9_init_46 ?_
  refine J_istore_n [(1, .int 0), (0, .ref 0)] rfl (i := 1) (by decide) rfl dX9_init_47 ?_
  refine J_iload_n rfl (i := 1) rfl dX9_init_48 ?_
  refine J_bipush (v := 8) (by decide) dX9_init_49 ?_
  refine J_icmp_ge (tgt := 73) dX9_init_51 (by decide) (fun h => absurd h (by decide)) (fun _ => ?_)
  refine J_aload_n rfl (i := 0) rfl dX9_init_54 ?_
  refine J_getr kls_9 (q := 0) (k := 3) (r := 22) rfl (by decide) rfl gw_432 dX9_init_55 ?_
  refine J_iload_n rfl (i := 1) rfl dX9_init_58 ?_
  refine J_new (a := 39) (b := 17563) (sh' := (List.set (List.set (SH.take 24) 0 (.inl (9, [some (some 1), some (some 4), some (some 13), some (some 22), some none, some none, some none, some none, some none, some none, none]))) 22 (.inr (.inr (4, 8, fun j => if j < 0 then some (23 + j) else none))))) kls_0 23 rfl (by decide) (fun j => (Zf.mset (Zf.mono (by decide) hz) (by decide)) 23 j (Nat.le_refl _)) rfl gw_242 gw_244 gw_111 dX9_init_59 rfl ?_
  refine J_dupr dX9_init_62 ?_
  refine J_callI (as := []) (k := 23) (st := [.ref 23, .int 0, .ref 22]) (a1 := 0) (b1 := 0) (a2 := 39) (b2 := 17563) cal_X0_init cii_X0_init rfl rfl gw_245 ⟨by decide, by decide⟩ cnt_X0_init rfl (Nat.le_of_ble_eq_true rfl) dX9_init_63 rfl rfl (ci_X0 rfl) ?_
  refine J_aast (j := 0) (r := 23 + 0) (f' := fun x => if x < 1 then some (23 + x) else none) (sh' := (List.set (List.set (SH.take 24) 0 (.inl (9, [some (some 1), some (some 4), some (some 13), some (some 22), some none, some none, some none, some none, some none, some none, none]))) 22 (.inr (.inr (4, 8, fun j => if j < 1 then some (23 + j) else none))))) (q := 22) rfl rfl rfl (by decide) (by decide) (up_f 23 0) dX9_init_66 rfl ?_
  refine J_iinc [(1, .int 1), (0, .ref 0)] (i := 1) (v := 1) rfl (by decide) (by decide) rfl dX9_init_67 ?_
  refine J_goto (tgt := 48) dX9_init_70 (by decide) ?_
  refine J_iload_n rfl (i := 1) rfl dX9_init_48 ?_
  refine J_bipush (v := 8) (by decide) dX9_init_49 ?_
  refine J_icmp_ge (tgt := 73) dX9_init_51 (by decide) (fun h => absurd h (by decide)) (fun _ => ?_)
  refine J_aload_n rfl (i := 0) rfl dX9_init_54 ?_
  refine J_getr kls_9 (q := 0) (k := 3) (r := 22) rfl (by decide) rfl gw_432 dX9_init_55 ?_
  refine J_iload_n rfl (i := 1) rfl dX9_init_58 ?_
  refine J_new (a := 38) (b := 17555) (sh' := (List.set (List.set (SH.take 25) 0 (.inl (9, [some (some 1), some (some 4), some (some 13), some (some 22), some none, some none, some none, some none, some none, some none, none]))) 22 (.inr (.inr (4, 8, fun j => if j < 1 then some (23 + j) else none))))) kls_0 24 rfl (by decide) (fun j => (Zf.mset (Zf.mset (Zf.mset (Zf.mono (by decide) hz) (by decide)) (by decide)) (by decide)) 24 j (Nat.le_refl _)) rfl gw_242 gw_244 gw_111 dX9_init_59 rfl ?_
  refine J_dupr dX9_init_62 ?_
  refine J_callI (as := []) (k := 24) (st := [.ref 24, .int 1, .ref 22]) (a1 := 0) (b1 := 0) (a2 := 38) (b2 := 17555) cal_X0_init cii_X0_init rfl rfl gw_245 ⟨by decide, by decide⟩ cnt_X0_init rfl (Nat.le_of_ble_eq_true rfl) dX9_init_63 rfl rfl (ci_X0 rfl) ?_
  refine J_aast (j := 1) (r := 23 + 1) (f' := fun x => if x < 2 then some (23 + x) else none) (sh' := (List.set (List.set (SH.take 25) 0 (.inl (9, [some (some 1), some (some 4), some (some 13), some (some 22), some none, some none, some none, some none, some none, some none, none]))) 22 (.inr (.inr (4, 8, fun j => if j < 2 then some (23 + j) else none))))) (q := 22) rfl rfl rfl (by decide) (by decide) (up_f 23 1) dX9_init_66 rfl ?_
  refine J_iinc [(1, .int 2), (0, .ref 0)] (i := 1) (v := 2) rfl (by decide) (by decide) rfl dX9_init_67 ?_
  refine J_goto (tgt := 48) dX9_init_70 (by decide) ?_
  refine J_iload_n rfl (i := 1) rfl dX9_init_48 ?_
  refine J_bipush (v := 8) (by decide) dX9_init_49 ?_
  refine J_icmp_ge (tgt := 73) dX9_init_51 (by decide) (fun h => absurd h (by decide)) (fun _ => ?_)
  refine J_aload_n rfl (i := 0) rfl dX9_init_54 ?_
  refine J_getr kls_9 (q := 0) (k := 3) (r := 22) rfl (by decide) rfl gw_432 dX9_init_55 ?_
  refine J_iload_n rfl (i := 1) rfl dX9_init_58 ?_
  refine J_new (a := 37) (b := 17547) (sh' := (List.set (List.set (SH.take 26) 0 (.inl (9, [some (some 1), some (some 4), some (some 13), some (some 22), some none, some none, some none, some none, some none, some none, none]))) 22 (.inr (.inr (4, 8, fun j => if j < 2 then some (23 + j) else none))))) kls_0 25 rfl (by decide) (fun j => (Zf.mset (Zf.mset (Zf.mset (Zf.mset (Zf.mset (Zf.mono (by decide) hz) (by decide)) (by decide)) (by decide)) (by decide)) (by decide)) 25 j (Nat.le_refl _)) rfl gw_242 gw_244 gw_111 dX9_init_59 rfl ?_
  refine J_dupr dX9_init_62 ?_
  refine J_callI (as := []) (k := 25) (st := [.ref 25, .int 2, .ref 22]) (a1 := 0) (b1 := 0) (a2 := 37) (b2 := 17547) cal_X0_init cii_X0_init rfl rfl gw_245 ⟨by decide, by decide⟩ cnt_X0_init rfl (Nat.le_of_ble_eq_true rfl) dX9_init_63 rfl rfl (ci_X0 rfl) ?_
  refine J_aast (j := 2) (r := 23 + 2) (f' := fun x => if x < 3 then some (23 + x) else none) (sh' := (List.set (List.set (SH.take 26) 0 (.inl (9, [some (some 1), some (some 4), some (some 13), some (some 22), some none, some none, some none, some none, some none, some none, none]))) 22 (.inr (.inr (4, 8, fun j => if j < 3 then some (23 + j) else none))))) (q := 22) rfl rfl rfl (by decide) (by decide) (up_f 23 2) dX9_init_66 rfl ?_
  refine J_iinc [(1, .int 3), (0, .ref 0)] (i := 1) (v := 3) rfl (by decide) (by decide) rfl dX9_init_67 ?_
  refine J_goto (tgt := 48) dX9_init_70 (by decide) ?_
  refine J_iload_n rfl (i := 1) rfl dX9_init_48 ?_
  refine J_bipush (v := 8) (by decide) dX9_init_49 ?_
  refine J_icmp_ge (tgt := 73) dX9_init_51 (by decide) (fun h => absurd h (by decide)) (fun _ => ?_)
  refine J_aload_n rfl (i := 0) rfl dX9_init_54 ?_
  refine J_getr kls_9 (q := 0) (k := 3) (r := 22) rfl (by decide) rfl gw_432 dX9_init_55 ?_
  refine J_iload_n rfl (i := 1) rfl dX9_init_58 ?_
  refine J_new (a := 36) (b := 17539) (sh' := (List.set (List.set (SH.take 27) 0 (.inl (9, [some (some 1), some (some 4), some (some 13), some (some 22), some none, some none, some none, some none, some none, some none, none]))) 22 (.inr (.inr (4, 8, fun j => if j < 3 then some (23 + j) else none))))) kls_0 26 rfl (by decide) (fun j => (Zf.mset (Zf.mset (Zf.mset (Zf.mset (Zf.mset (Zf.mset (Zf.mset (Zf.mono (by decide) hz) (by decide)) (by decide)) (by decide)) (by decide)) (by decide)) (by decide)) (by decide)) 26 j (Nat.le_refl _)) rfl gw_242 gw_244 gw_111 dX9_init_59 rfl ?_
  refine J_dupr dX9_init_62 ?_
  refine J_callI (as := []) (k := 26) (st := [.ref 26, .int 3, .ref 22]) (a1 := 0) (b1 := 0) (a2 := 36) (b2 := 17539) cal_X0_init cii_X0_init rfl rfl gw_245 ⟨by decide, by decide⟩ cnt_X0_init rfl (Nat.le_of_ble_eq_true rfl) dX9_init_63 rfl rfl (ci_X0 rfl) ?_
  refine J_aast (j := 3) (r := 23 + 3) (f' := fun x => if x < 4 then some (23 + x) else none) (sh' := (List.set (List.set (SH.take 27) 0 (.inl (9, [some (some 1), some (some 4), some (some 13), some (some 22), some none, some none, some none, some none, some none, some none, none]))) 22 (.inr (.inr (4, 8, fun j => if j < 4 then some (23 + j) else none))))) (q := 22) rfl rfl rfl (by decide) (by decide) (up_f 23 3) dX9_init_66 rfl ?_
  refine J_iinc [(1, .int 4), (0, .ref 0)] (i := 1) (v := 4) rfl (by decide) (by decide) rfl dX9_init_67 ?_
  refine J_goto (tgt := 48) dX9_init_70 (by decide) ?_
  refine J_iload_n rfl (i := 1) rfl dX9_init_48 ?_
  refine J_bipush (v := 8) (by decide) dX9_init_49 ?_
  refine J_icmp_ge (tgt := 73) dX9_init_51 (by decide) (fun h => absurd h (by decide)) (fun _ => ?_)
  refine J_aload_n rfl (i := 0) rfl dX9_init_54 ?_
  refine J_getr kls_9 (q := 0) (k := 3) (r := 22) rfl (by decide) rfl gw_432 dX9_init_55 ?_
  refine J_iload_n rfl (i := 1) rfl dX9_init_58 ?_
  refine J_new (a := 35) (b := 17531) (sh' := (List.set (List.set (SH.take 28) 0 (.inl (9, [some (some 1), some (some 4), some (some 13), some (some 22), some none, some none, some none, some none, some none, some none, none]))) 22 (.inr (.inr (4, 8, fun j => if j < 4 then some (23 + j) else none))))) kls_0 27 rfl (by decide) (fun j => (Zf.mset (Zf.mset (Zf.mset (Zf.mset (Zf.mset (Zf.mset (Zf.mset (Zf.mset (Zf.mset (Zf.mono (by decide) hz) (by decide)) (by decide)) (by decide)) (by decide)) (by decide)) (by decide)) (by decide)) (by decide)) (by decide)) 27 j (Nat.le_refl _)) rfl gw_242 gw_244 gw_111 dX9_init_59 rfl ?_
  refine J_dupr dX9_init_62 ?_
  refine J_callI (as := []) (k := 27) (st := [.ref 27, .int 4, .ref 22]) (a1 := 0) (b1 := 0) (a2 := 35) (b2 := 17531) cal_X0_init cii_X0_init rfl rfl gw_245 ⟨by decide, by decide⟩ cnt_X0_init rfl (Nat.le_of_ble_eq_true rfl) dX9_init_63 rfl rfl (ci_X0 rfl) ?_
  refine J_aast (j := 4) (r := 23 + 4) (f' := fun x => if x < 5 then some (23 + x) else none) (sh' := (List.set (List.set (SH.take 28) 0 (.inl (9, [some (some 1), some (some 4), some (some 13), some (some 22), some none, some none, some none, some none, some none, some none, none]))) 22 (.inr (.inr (4, 8, fun j => if j < 5 then some (23 + j) else none))))) (q := 22) rfl rfl rfl (by decide) (by decide) (up_f 23 4) dX9_init_66 rfl ?_
  refine J_iinc [(1, .int 5), (0, .ref 0)] (i := 1) (v := 5) rfl (by decide) (by decide) rfl dX9_init_67 ?_
  refine J_goto (tgt := 48) dX9_init_70 (by decide) ?_
  refine J_iload_n rfl (i := 1) rfl dX9_init_48 ?_
  refine J_bipush (v := 8) (by decide) dX9_init_49 ?_
  refine J_icmp_ge (tgt := 73) dX9_init_51 (by decide) (fun h => absurd h (by decide)) (fun _ => ?_)
  refine J_aload_n rfl (i := 0) rfl dX9_init_54 ?_
  refine J_getr kls_9 (q := 0) (k := 3) (r := 22) rfl (by decide) rfl gw_432 dX9_init_55 ?_
  refine J_iload_n rfl (i := 1) rfl dX9_init_58 ?_
  refine J_new (a := 34) (b := 17523) (sh' := (List.set (List.set (SH.take 29) 0 (.inl (9, [some (some 1), some (some 4), some (some 13), some (some 22), some none, some none, some none, some none, some none, some none, none]))) 22 (.inr (.inr (4, 8, fun j => if j < 5 then some (23 + j) else none))))) kls_0 28 rfl (by decide) (fun j => (Zf.mset (Zf.mset (Zf.mset (Zf.mset (Zf.mset (Zf.mset (Zf.mset (Zf.mset (Zf.mset (Zf.mset (Zf.mset (Zf.mono (by decide) hz) (by decide)) (by decide)) (by decide)) (by decide)) (by decide)) (by decide)) (by decide)) (by decide)) (by decide)) (by decide)) (by decide)) 28 j (Nat.le_refl _)) rfl gw_242 gw_244 gw_111 dX9_init_59 rfl ?_
  refine J_dupr dX9_init_62 ?_
  refine J_callI (as := []) (k := 28) (st := [.ref 28, .int 5, .ref 22]) (a1 := 0) (b1 := 0) (a2 := 34) (b2 := 17523) cal_X0_init cii_X0_init rfl rfl gw_245 ⟨by decide, by decide⟩ cnt_X0_init rfl (Nat.le_of_ble_eq_true rfl) dX9_init_63 rfl rfl (ci_X0 rfl) ?_
  refine J_aast (j := 5) (r := 23 + 5) (f' := fun x => if x < 6 then some (23 + x) else none) (sh' := (List.set (List.set (SH.take 29) 0 (.inl (9, [some (some 1), some (some 4), some (some 13), some (some 22), some none, some none, some none, some none, some none, some none, none]))) 22 (.inr (.inr (4, 8, fun j => if j < 6 then some (23 + j) else none))))) (q := 22) rfl rfl rfl (by decide) (by decide) (up_f 23 5) dX9_init_66 rfl ?_
  refine J_iinc [(1, .int 6), (0, .ref 0)] (i := 1) (v := 6) rfl (by decide) (by decide) rfl dX9_init_67 ?_
  refine J_goto (tgt := 48) dX9_init_70 (by decide) ?_
  refine J_iload_n rfl (i := 1) rfl dX9_init_48 ?_
  refine J_bipush (v := 8) (by decide) dX9_init_49 ?_
  refine J_icmp_ge (tgt := 73) dX9_init_51 (by decide) (fun h => absurd h (by decide)) (fun _ => ?_)
  refine J_aload_n rfl (i := 0) rfl dX9_init_54 ?_
  refine J_getr kls_9 (q := 0) (k := 3) (r := 22) rfl (by decide) rfl gw_432 dX9_init_55 ?_
  refine J_iload_n rfl (i := 1) rfl dX9_init_58 ?_
  refine J_new (a := 33) (b := 17515) (sh' := (List.set (List.set (SH.take 30) 0 (.inl (9, [some (some 1), some (some 4), some (some 13), some (some 22), some none, some none, some none, some none, some none, some none, none]))) 22 (.inr (.inr (4, 8, fun j => if j < 6 then some (23 + j) else none))))) kls_0 29 rfl (by decide) (fun j => (Zf.mset (Zf.mset (Zf.mset (Zf.mset (Zf.mset (Zf.mset (Zf.mset (Zf.mset (Zf.mset (Zf.mset (Zf.mset (Zf.mset (Zf.mset (Zf.mono (by decide) hz) (by decide)) (by decide)) (by decide)) (by decide)) (by decide)) (by decide)) (by decide)) (by decide)) (by decide)) (by decide)) (by decide)) (by decide)) (by decide)) 29 j (Nat.le_refl _)) rfl gw_242 gw_244 gw_111 dX9_init_59 rfl ?_
  refine J_dupr dX9_init_62 ?_
  refine J_callI (as := []) (k := 29) (st := [.ref 29, .int 6, .ref 22]) (a1 := 0) (b1 := 0) (a2 := 33) (b2 := 17515) cal_X0_init cii_X0_init rfl rfl gw_245 ⟨by decide, by decide⟩ cnt_X0_init rfl (Nat.le_of_ble_eq_true rfl) dX9_init_63 rfl rfl (ci_X0 rfl) ?_
  refine J_aast (j := 6) (r := 23 + 6) (f' := fun x => if x < 7 then some (23 + x) else none) (sh' := (List.set (List.set (SH.take 30) 0 (.inl (9, [some (some 1), some (some 4), some (some 13), some (some 22), some none, some none, some none, some none, some none, some none, none]))) 22 (.inr (.inr (4, 8, fun j => if j < 7 then some (23 + j) else none))))) (q := 22) rfl rfl rfl (by decide) (by decide) (up_f 23 6) dX9_init_66 rfl ?_
  refine J_iinc [(1, .int 7), (0, .ref 0)] (i := 1) (v := 7) rfl (by decide) (by decide) rfl dX9_init_67 ?_
  refine J_goto (tgt := 48) dX9_init_70 (by decide) ?_
  refine J_iload_n rfl (i := 1) rfl dX9_init_48 ?_
  refine J_bipush (v := 8) (by decide) dX9_init_49 ?_
  refine J_icmp_ge (tgt := 73) dX9_init_51 (by decide) (fun h => absurd h (by decide)) (fun _ => ?_)
  refine J_aload_n rfl (i := 0) rfl dX9_init_54 ?_
  refine J_getr kls_9 (q := 0) (k := 3) (r := 22) rfl (by decide) rfl gw_432 dX9_init_55 ?_
  refine J_iload_n rfl (i := 1) rfl dX9_init_58 ?_
  refine J_new (a := 32) (b := 17507) (sh' := (List.set (List.set (SH.take 31) 0 (.inl (9, [some (some 1), some (some 4), some (some 13), some (some 22), some none, some none, some none, some none, some none, some none, none]))) 22 (.inr (.inr (4, 8, fun j => if j < 7 then some (23 + j) else none))))) kls_0 30 rfl (by decide) (fun j => (Zf.mset (Zf.mset (Zf.mset (Zf.mset (Zf.mset (Zf.mset (Zf.mset (Zf.mset (Zf.mset (Zf.mset (Zf.mset (Zf.mset (Zf.mset (Zf.mset (Zf.mset (Zf.mono (by decide) hz) (by decide)) (by decide)) (by decide)) (by decide)) (by decide)) (by decide)) (by decide)) (by decide)) (by decide)) (by decide)) (by decide)) (by decide)) (by decide)) (by decide)) (by decide)) 30 j (Nat.le_refl _)) rfl gw_242 gw_244 gw_111 dX9_init_59 rfl ?_
  refine J_dupr dX9_init_62 ?_
  refine J_callI (as := []) (k := 30) (st := [.ref 30, .int 7, .ref 22]) (a1 := 0) (b1 := 0) (a2 := 32) (b2 := 17507) cal_X0_init cii_X0_init rfl rfl gw_245 ⟨by decide, by decide⟩ cnt_X0_init rfl (Nat.le_of_ble_eq_true rfl) dX9_init_63 rfl rfl (ci_X0 rfl) ?_
  refine J_aast (j := 7) (r := 23 + 7) (f' := fun x => if x < 8 then some (23 + x) else none) (sh' := (List.set (SH.take 31) 0 (.inl (9, [some (some 1), some (some 4), some (some 13), some (some 22), some none, some none, some none, some none, some none, some none, none])))) (q := 22) rfl rfl rfl (by decide) (by decide) (up_f 23 7) dX9_init_66 rfl ?_
  refine J_iinc [(1, .int 8), (0, .ref 0)] (i := 1) (v := 8) rfl (by decide) (by decide) rfl dX9_init_67 ?_
  refine J_goto (tgt := 48) dX9_init_70 (by decide) ?_
  refine J_iload_n rfl (i := 1) rfl dX9_init_48 ?_
  refine J_bipush (v := 8) (by decide) dX9_init_49 ?_
  refine J_icmp_ge (tgt := 73) dX9_init_51 (by decide) (fun _ => ?_) (fun h => absurd (by decide) h)
  refine J_aload_n rfl (i := 0) rfl dX9_init_73 ?_
  refine J_new (a := 31) (b := 17505) (sh' := (List.set (List.set (SH.take 32) 0 (.inl (9, [some (some 1), some (some 4), some (some 13), some (some 22), some none, some none, some none, some none, some none, some none, none]))) 31 (.inl (2, [some none, some none])))) kls_2 31 rfl (by decide) (fun j => (Zf.mset (Zf.mset (Zf.mset (Zf.mset (Zf.mset (Zf.mset (Zf.mset (Zf.mset (Zf.mset (Zf.mset (Zf.mset (Zf.mset (Zf.mset (Zf.mset (Zf.mset (Zf.mset (Zf.mset (Zf.mono (by decide) hz) (by decide)) (by decide)) (by decide)) (by decide)) (by decide)) (by decide)) (by decide)) (by decide)) (by decide)) (by decide)) (by decide)) (by decide)) (by decide)) (by decide)) (by decide)) (by decide)) (by decide)) 31 j (Nat.le_refl _)) rfl gw_295 gw_296 gw_112 dX9_init_74 rfl ?_
  refine J_dupr dX9_init_77 ?_
  refine J_aload_n rfl (i := 0) rfl dX9_init_78 ?_
  refine J_getr kls_9 (q := 0) (k := 1) (r := 4) rfl (by decide) rfl gw_430 dX9_init_79 ?_
  refine J_aload_n rfl (i := 0) rfl dX9_init_82 ?_
  refine J_getr kls_9 (q := 0) (k := 3) (r := 22) rfl (by decide) rfl gw_432 dX9_init_83 ?_
  refine J_callI (as := [.ref 4, .ref 22]) (k := 31) (st := [.ref 31, .ref 0]) (a1 := 0) (b1 := 0) (a2 := 31) (b2 := 17505) cal_X2_init cii_X2_init rfl rfl gw_297 ⟨by decide, by decide⟩ cnt_X2_init rfl (Nat.le_of_ble_eq_true rfl) dX9_init_86 rfl rfl (ci_X2_init_31 (Zf.mset (Zf.mset (Zf.mset (Zf.mset (Zf.mset (Zf.mset (Zf.mset (Zf.mset (Zf.mset (Zf.mset (Zf.mset (Zf.mset (Zf.mset (Zf.mset (Zf.mset (Zf.mset (Zf.mset (Zf.mono (by decide) hz) (by decide)) (by decide)) (by decide)) (by decide)) (by decide)) (by decide)) (by decide)) (by decide)) (by decide)) (by decide)) (by decide)) (by decide)) (by decide)) (by decide)) (by decide)) (by decide)) (by decide))) ?_
  refine J_putFrE (sh' := (List.set (SH.take 32) 0 (.inl (9, [some (some 1), some (some 4), some (some 13), some (some 22), some (some 31), some none, some none, some none, some none, some none, none])))) kls_9 (q := 0) (k := 4) rfl (by decide) rfl rfl rfl rfl (fun _ => rfl) (fun _ => rfl) gw_433 dX9_init_89 rfl ?_
  refine J_aload_n rfl (i := 0) rfl dX9_init_92 ?_
  refine J_new (a := 30) (b := 17496) (sh' := (List.set (List.set (SH.take 33) 0 (.inl (9, [some (some 1), some (some 4), some (some 13), some (some 22), some (some 31), some none, some none, some none, some none, some none, none]))) 32 (.inl (4, [some none, some none, some none, some none, some none, some none, some none, none, none])))) kls_4 32 rfl (by decide) (fun j => (Zf.mset (Zf.mset (Zf.mset (Zf.mset (Zf.mset (Zf.mset (Zf.mset (Zf.mset (Zf.mset (Zf.mset (Zf.mset (Zf.mset (Zf.mset (Zf.mset (Zf.mset (Zf.mset (Zf.mset (Zf.mono (by decide) hz) (by decide)) (by decide)) (by decide)) (by decide)) (by decide)) (by decide)) (by decide)) (by decide)) (by decide)) (by decide)) (by decide)) (by decide)) (by decide)) (by decide)) (by decide)) (by decide)) (by decide)) 32 j (Nat.le_refl _)) rfl gw_308 gw_309 gw_113 dX9_init_93 rfl ?_
  refine J_dupr dX9_init_96 ?_
  refine J_aload_n rfl (i := 0) rfl dX9_init_97 ?_
  refine J_getr kls_9 (q := 0) (k := 1) (r := 4) rfl (by decide) rfl gw_430 dX9_init_98 ?_
  refine J_aload_n rfl (i := 0) rfl dX9_init_101 ?_
  refine J_getr kls_9 (q := 0) (k := 3) (r := 22) rfl (by decide) rfl gw_432 dX9_init_102 ?_
  refine J_callI (as := [.ref 4, .ref 22]) (k := 32) (st := [.ref 32, .ref 0]) (a1 := 5) (b1 := 13142) (a2 := 25) (b2 := 4354) cal_X4_init cii_X4_init rfl rfl gw_310 ⟨by decide, by decide⟩ cnt_X4_init rfl (Nat.le_of_ble_eq_true rfl) dX9_init_105 rfl rfl (ci_X4_init_32 (Zf.mset (Zf.mset (Zf.mset (Zf.mset (Zf.mset (Zf.mset (Zf.mset (Zf.mset (Zf.mset (Zf.mset (Zf.mset (Zf.mset (Zf.mset (Zf.mset (Zf.mset (Zf.mset (Zf.mset (Zf.mono (by decide) hz) (by decide)) (by decide)) (by decide)) (by decide)) (by decide)) (by decide)) (by decide)) (by decide)) (by decide)) (by decide)) (by decide)) (by decide)) (by decide)) (by decide)) (by decide)) (by decide)) (by decide))) ?_
  refine J_putFrE (sh' := (List.set (SH.take 38) 0 (.inl (9, [some (some 1), some (some 4), some (some 13), some (some 22), some (some 31), some (some 32), some none, some none, some none, some none, none])))) kls_9 (q := 0) (k := 5) rfl (by decide) rfl rfl rfl rfl (fun _ => rfl) (fun _ => rfl) gw_434 dX9_init_108 rfl ?_
  refine J_aload_n rfl (i := 0) rfl dX9_init_111 ?_
  refine J_new (a := 24) (b := 4349) (sh' := (List.set (List.set (SH.take 39) 0 (.inl (9, [some (some 1), some (some 4), some (some 13), some (some 22), some (some 31), some (some 32), some none, some none, some none, some none, none]))) 38 (.inl (6, [some none, some none, some none, some none, some none])))) kls_6 38 rfl (by decide) (fun j => (Zf.mset (Zf.mset (Zf.mset (Zf.mset (Zf.mset (Zf.mset (Zf.mset (Zf.mset (Zf.mset (Zf.mset (Zf.mset (Zf.mset (Zf.mset (Zf.mset (Zf.mset (Zf.mset (Zf.mset (Zf.mono (by decide) hz) (by decide)) (by decide)) (by decide)) (by decide)) (by decide)) (by decide)) (by decide)) (by decide)) (by decide)) (by decide)) (by decide)) (by decide)) (by decide)) (by decide)) (by decide)) (by decide)) (by decide)) 38 j (Nat.le_refl _)) rfl gw_342 gw_343 gw_114 dX9_init_112 rfl ?_
  refine J_dupr dX9_init_115 ?_
  refine J_aload_n rfl (i := 0) rfl dX9_init_116 ?_
  refine J_getr kls_9 (q := 0) (k := 1) (r := 4) rfl (by decide) rfl gw_430 dX9_init_117 ?_
  refine J_aload_n rfl (i := 0) rfl dX9_init_120 ?_
  refine J_getr kls_9 (q := 0) (k := 3) (r := 22) rfl (by decide) rfl gw_432 dX9_init_121 ?_
  refine J_callI (as := [.ref 4, .ref 22]) (k := 38) (st := [.ref 38, .ref 0]) (a1 := 3) (b1 := 2008) (a2 := 21) (b2 := 2341) cal_X6_init cii_X6_init rfl rfl gw_344 ⟨by decide, by decide⟩ cnt_X6_init rfl (Nat.le_of_ble_eq_true rfl) dX9_init_124 rfl rfl (ci_X6_init_38 (Zf.mset (Zf.mset (Zf.mset (Zf.mset (Zf.mset (Zf.mset (Zf.mset (Zf.mset (Zf.mset (Zf.mset (Zf.mset (Zf.mset (Zf.mset (Zf.mset (Zf.mset (Zf.mset (Zf.mset (Zf.mono (by decide) hz) (by decide)) (by decide)) (by decide)) (by decide)) (by decide)) (by decide)) (by decide)) (by decide)) (by decide)) (by decide)) (by decide)) (by decide)) (by decide)) (by decide)) (by decide)) (by decide)) (by decide))) ?_
  refine J_putFrE (sh' := (List.set (SH.take 42) 0 (.inl (9, [some (some 1), some (some 4), some (some 13), some (some 22), some (some 31), some (some 32), some (some 38), some none, some none, some none, none])))) kls_9 (q := 0) (k := 6) rfl (by decide) rfl rfl rfl rfl (fun _ => rfl) (fun _ => rfl) gw_435 dX9_init_127 rfl ?_
  refine J_aload_n rfl (i := 0) rfl dX9_init_130 ?_
  refine J_new (a := 20) (b := 2338) (sh' := (List.set (List.set (SH.take 43) 0 (.inl (9, [some (some 1), some (some 4), some (some 13), some (some 22), some (some 31), some (some 32), some (some 38), some none, some none, some none, none]))) 42 (.inl (1, [some none, some none, some none])))) kls_1 42 rfl (by decide) (fun j => (Zf.mset (Zf.mset (Zf.mset (Zf.mset (Zf.mset (Zf.mset (Zf.mset (Zf.mset (Zf.mset (Zf.mset (Zf.mset (Zf.mset (Zf.mset (Zf.mset (Zf.mset (Zf.mset (Zf.mset (Zf.mono (by decide) hz) (by decide)) (by decide)) (by decide)) (by decide)) (by decide)) (by decide)) (by decide)) (by decide)) (by decide)) (by decide)) (by decide)) (by decide)) (by decide)) (by decide)) (by decide)) (by decide)) (by decide)) 42 j (Nat.le_refl _)) rfl gw_364 gw_365 gw_115 dX9_init_131 rfl ?_
  refine J_dupr dX9_init_134 ?_
  refine J_aload_n rfl (i := 0) rfl dX9_init_135 ?_
  refine J_getr kls_9 (q := 0) (k := 1) (r := 4) rfl (by decide) rfl gw_430 dX9_init_136 ?_
  refine J_aload_n rfl (i := 0) rfl dX9_init_139 ?_
  refine J_getr kls_9 (q := 0) (k := 3) (r := 22) rfl (by decide) rfl gw_432 dX9_init_140 ?_
  refine J_callI (as := [.ref 4, .ref 22]) (k := 42) (st := [.ref 42, .ref 0]) (a1 := 1) (b1 := 1440) (a2 := 19) (b2 := 898) cal_X1_init cii_X1_init rfl rfl gw_366 ⟨by decide, by decide⟩ cnt_X1_init rfl (Nat.le_of_ble_eq_true rfl) dX9_init_143 rfl rfl (ci_X1_init_42 (Zf.mset (Zf.mset (Zf.mset (Zf.mset (Zf.mset (Zf.mset (Zf.mset (Zf.mset (Zf.mset (Zf.mset (Zf.mset (Zf.mset (Zf.mset (Zf.mset (Zf.mset (Zf.mset (Zf.mset (Zf.mono (by decide) hz) (by decide)) (by decide)) (by decide)) (by decide)) (by decide)) (by decide)) (by decide)) (by decide)) (by decide)) (by decide)) (by decide)) (by decide)) (by decide)) (by decide)) (by decide)) (by decide)) (by decide))) ?_
  refine J_putFrE (sh' := (List.set (SH.take 44) 0 (.inl (9, [some (some 1), some (some 4), some (some 13), some (some 22), some (some 31), some (some 32), some (some 38), some (some 42), some none, some none, none])))) kls_9 (q := 0) (k := 7) rfl (by decide) rfl rfl rfl rfl (fun _ => rfl) (fun _ => rfl) gw_436 dX9_init_146 rfl ?_
  refine J_aload_n rfl (i := 0) rfl dX9_init_149 ?_
  refine J_new (a := 18) (b := 892) (sh' := (List.set (List.set (SH.take 45) 0 (.inl (9, [some (some 1), some (some 4), some (some 13), some (some 22), some (some 31), some (some 32), some (some 38), some (some 42), some none, some none, none]))) 44 (.inl (5, [some none, some none, some none, some none, some none, none])))) kls_5 44 rfl (by decide) (fun j => (Zf.mset (Zf.mset (Zf.mset (Zf.mset (Zf.mset (Zf.mset (Zf.mset (Zf.mset (Zf.mset (Zf.mset (Zf.mset (Zf.mset (Zf.mset (Zf.mset (Zf.mset (Zf.mset (Zf.mset (Zf.mono (by decide) hz) (by decide)) (by decide)) (by decide)) (by decide)) (by decide)) (by decide)) (by decide)) (by decide)) (by decide)) (by decide)) (by decide)) (by decide)) (by decide)) (by decide)) (by decide)) (by decide)) (by decide)) 44 j (Nat.le_refl _)) rfl gw_382 gw_383 gw_116 dX9_init_150 rfl ?_
  refine J_dupr dX9_init_153 ?_
  refine J_aload_n rfl (i := 0) rfl dX9_init_154 ?_
  refine J_getr kls_9 (q := 0) (k := 1) (r := 4) rfl (by decide) rfl gw_430 dX9_init_155 ?_
  refine J_aload_n rfl (i := 0) rfl dX9_init_158 ?_
  refine J_getr kls_9 (q := 0) (k := 3) (r := 22) rfl (by decide) rfl gw_432 dX9_init_159 ?_
  refine J_callI (as := [.ref 4, .ref 22]) (k := 44) (st := [.ref 44, .ref 0]) (a1 := 3) (b1 := 768) (a2 := 15) (b2 := 124) cal_X5_init cii_X5_init rfl rfl gw_384 ⟨by decide, by decide⟩ cnt_X5_init rfl (Nat.le_of_ble_eq_true rfl) dX9_init_162 rfl rfl (ci_X5_init_44 (Zf.mset (Zf.mset (Zf.mset (Zf.mset (Zf.mset (Zf.mset (Zf.mset (Zf.mset (Zf.mset (Zf.mset (Zf.mset (Zf.mset (Zf.mset (Zf.mset (Zf.mset (Zf.mset (Zf.mset (Zf.mono (by decide) hz) (by decide)) (by decide)) (by decide)) (by decide)) (by decide)) (by decide)) (by decide)) (by decide)) (by decide)) (by decide)) (by decide)) (by decide)) (by decide)) (by decide)) (by decide)) (by decide)) (by decide))) ?_
  refine J_putFrE (sh' := (List.set (SH.take 48) 0 (.inl (9, [some (some 1), some (some 4), some (some 13), some (some 22), some (some 31), some (some 32), some (some 38), some (some 42), some (some 44), some none, none])))) kls_9 (q := 0) (k := 8) rfl (by decide) rfl rfl rfl rfl (fun _ => rfl) (fun _ => rfl) gw_437 dX9_init_165 rfl ?_
  refine J_aload_n rfl (i := 0) rfl dX9_init_168 ?_
  refine J_new (a := 14) (b := 120) (sh' := (List.set (List.set (SH.take 49) 0 (.inl (9, [some (some 1), some (some 4), some (some 13), some (some 22), some (some 31), some (some 32), some (some 38), some (some 42), some (some 44), some none, none]))) 48 (.inl (3, [some none, some none, none, none])))) kls_3 48 rfl (by decide) (fun j => (Zf.mset (Zf.mset (Zf.mset (Zf.mset (Zf.mset (Zf.mset (Zf.mset (Zf.mset (Zf.mset (Zf.mset (Zf.mset (Zf.mset (Zf.mset (Zf.mset (Zf.mset (Zf.mset (Zf.mset (Zf.mono (by decide) hz) (by decide)) (by decide)) (by decide)) (by decide)) (by decide)) (by decide)) (by decide)) (by decide)) (by decide)) (by decide)) (by decide)) (by decide)) (by decide)) (by decide)) (by decide)) (by decide)) (by decide)) 48 j (Nat.le_refl _)) rfl gw_407 gw_408 gw_117 dX9_init_169 rfl ?_
  refine J_dupr dX9_init_172 ?_
  refine J_callI (as := []) (k := 48) (st := [.ref 48, .ref 0]) (a1 := 14) (b1 := 120) (a2 := 0) (b2 := 0) cal_X3_init cii_X3_init rfl rfl gw_409 ⟨by decide, by decide⟩ cnt_X3_init rfl (Nat.le_of_ble_eq_true rfl) dX9_init_173 rfl rfl (ci_X3_init_48 (Zf.mset (Zf.mset (Zf.mset (Zf.mset (Zf.mset (Zf.mset (Zf.mset (Zf.mset (Zf.mset (Zf.mset (Zf.mset (Zf.mset (Zf.mset (Zf.mset (Zf.mset (Zf.mset (Zf.mset (Zf.mono (by decide) hz) (by decide)) (by decide)) (by decide)) (by decide)) (by decide)) (by decide)) (by decide)) (by decide)) (by decide)) (by decide)) (by decide)) (by decide)) (by decide)) (by decide)) (by decide)) (by decide)) (by decide))) ?_
  refine J_putFrE (sh' := (SH.take 63)) kls_9 (q := 0) (k := 9) rfl (by decide) rfl rfl rfl rfl (fun _ => rfl) (fun _ => rfl) gw_438 dX9_init_176 rfl ?_
  refine J_aload_n rfl (i := 0) rfl dX9_init_179 ?_
  refine J_iconst (v := 0) (by decide) dX9_init_180 ?_
  refine J_puti kls_9 (q := 0) (k := 10) rfl (by decide) rfl rfl (fun _ => rfl) (fun _ => rfl) gw_439 dX9_init_181 ?_
  exact J_finv rfl dX9_init_184 ⟨rfl, rfl⟩
set_option maxRecDepth 40000 in
set_option maxHeartbeats 4000000 in
theorem ci_X10_init_63 {G : Gx} {mm : Nat → Nat → Int32} {lm : Nat → Int64} (hz : Zf 64 mm) : Ct G M_X10_init [.ref 63] ((List.set (SH.take 64) 63 (.inl (10, [some none, some none, none, none, none, none, some none, some none, none, some none, some none, some none, none, some none, some none, none, some none, some none, none, none, none, none, none, none, none, none, some none, none, none, none, none, none, some none, some none, some none, some none, some none, some none, some none, some none, some none]))), mm, lm) true (.inl none) ((SH.take 85), (mset mm 63 25 (-1)), lm) true 21 17278 := by
  refine ct_of_J (by decide +kernel) rfl (by decide) ?_
  refine J_aload_n rfl (i := 0) rfl dX10_init_0 ?_
  refine J_objInit gw_1432 gw_138 gw_139 (Nat.le_of_ble_eq_true rfl) (by decide) (by decide) dX10_init_1 ?_
  refine J_aload_n rfl (i := 0) rfl dX10_init_4 ?_
  refine J_bipush (v := 80) (by decide) dX10_init_5 ?_
  refine J_newa (a := 20) (b := 17198) (sh' := (List.set (SH.take 65) 63 (.inl (10, [some none, some none, none, none, none, none, some none, some none, none, some none, some none, some none, none, some none, some none, none, some none, some none, none, none, none, none, none, none, none, none, some none, none, none, none, none, none, some none, some none, some none, some none, some none, some none, some none, some none, some none])))) (atype := .int) (ty := .int) (t := 0) (N := 80) rfl rfl 64 rfl (by decide) (fun j => hz 64 j (Nat.le_refl _)) (fun h => absurd h (by decide)) rfl (by decide) (by decide) (Nat.le_of_ble_eq_true rfl) (fun C h => by cases h) gw_177 dX10_init_7 rfl ?_
  refine J_putFrE (sh' := (List.set (SH.take 65) 63 (.inl (10, [some (some 64), some none, none, none, none, none, some none, some none, none, some none, some none, some none, none, some none, some none, none, some none, some none, none, none, none, none, none, none, none, none, some none, none, none, none, none, none, some none, some none, some none, some none, some none, some none, some none, some none, some none])))) kls_10 (q := 63) (k := 0) rfl (by decide) rfl rfl rfl rfl (fun _ => rfl) (fun _ => rfl) gw_1433 dX10_init_9 rfl ?_
  refine J_aload_n rfl (i := 0) rfl dX10_init_12 ?_
  refine J_sipush (v := 960) (by decide) dX10_init_13 ?_
  refine J_newa (a := 19) (b := 16238) (sh' := (List.set (SH.take 66) 63 (.inl (10, [some (some 64), some none, none, none, none, none, some none, some none, none, some none, some none, some none, none, some none, some none, none, some none, some none, none, none, none, none, none, none, none, none, some none, none, none, none, none, none, some none, some none, some none, some none, some none, some none, some none, some none, some none])))) (atype := .int) (ty := .int) (t := 0) (N := 960) rfl rfl 65 rfl (by decide) (fun j => (Zf.mono (by decide) hz) 65 j (Nat.le_refl _)) (fun h => absurd h (by decide)) rfl (by decide) (by decide) (Nat.le_of_ble_eq_true rfl) (fun C h => by cases h) gw_177 dX10_init_16 rfl ?_
  refine J_putFrE (sh' := (List.set (SH.take 66) 63 (.inl (10, [some (some 64), some (some 65), none, none, none, none, some none, some none, none, some none, some none, some none, none, some none, some none, none, some none, some none, none, none, none, none, none, none, none, none, some none, none, none, none, none, none, some none, some none, some none, some none, some none, some none, some none, some none, some none])))) kls_10 (q := 63) (k := 1) rfl (by decide) rfl rfl rfl rfl (fun _ => rfl) (fun _ => rfl) gw_1434 dX10_init_18 rfl ?_
  refine J_aload_n rfl (i := 0) rfl dX10_init_21 ?_
  refine J_iconst (v := 4) (by decide) dX10_init_22 ?_
  refine J_newa (a := 18) (b := 16234) (sh' := (List.set (SH.take 67) 63 (.inl (10, [some (some 64), some (some 65), none, none, none, none, some none, some none, none, some none, some none, some none, none, some none, some none, none, some none, some none, none, none, none, none, none, none, none, none, some none, none, none, none, none, none, some none, some none, some none, some none, some none, some none, some none, some none, some none])))) (atype := .int) (ty := .int) (t := 0) (N := 4) rfl rfl 66 rfl (by decide) (fun j => (Zf.mono (by decide) hz) 66 j (Nat.le_refl _)) (fun h => absurd h (by decide)) rfl (by decide) (by decide) (Nat.le_of_ble_eq_true rfl) (fun C h => by cases h) gw_177 dX10_init_23 rfl ?_
  refine J_putFrE (sh' := (List.set (SH.take 67) 63 (.inl (10, [some (some 64), some (some 65), none, none, none, none, some (some 66), some none, none, some none, some none, some none, none, some none, some none, none, some none, some none, none, none, none, none, none, none, none, none, some none, none, none, none, none, none, some none, some none, some none, some none, some none, some none, some none, some none, some none])))) kls_10 (q := 63) (k := 6) rfl (by decide) rfl rfl rfl rfl (fun _ => rfl) (fun _ => rfl) gw_1439 dX10_init_25 rfl ?_
  refine J_aload_n rfl (i := 0) rfl dX10_init_28 ?_
  refine J_iconst (v := 4) (by decide) dX10_init_29 ?_
  refine J_newa (a := 17) (b := 16230) (sh' := (List.set (SH.take 68) 63 (.inl (10, [some (some 64), some (some 65), none, none, none, none, some (some 66), some none, none, some none, some none, some none, none, some none, some none, none, some none, some none, none, none, none, none, none, none, none, none, some none, none, none, none, none, none, some none, some none, some none, some none, some none, some none, some none, some none, some none])))) (atype := .int) (ty := .int) (t := 0) (N := 4) rfl rfl 67 rfl (by decide) (fun j => (Zf.mono (by decide) hz) 67 j (Nat.le_refl _)) (fun h => absurd h (by decide)) rfl (by decide) (by decide) (Nat.le_of_ble_eq_true rfl) (fun C h => by cases h) gw_177 dX10_init_30 rfl ?_
  refine J_putFrE (sh' := (List.set (SH.take 68) 63 (.inl (10, [some (some 64), some (some 65), none, none, none, none, some (some 66), some (some 67), none, some none, some none, some none, none, some none, some none, none, some none, some none, none, none, none, none, none, none, none, none, some none, none, none, none, none, none, some none, some none, some none, some none, some none, some none, some none, some none, some none])))) kls_10 (q := 63) (k := 7) rfl (by decide) rfl rfl rfl rfl (fun _ => rfl) (fun _ => rfl) gw_1440 dX10_init_32 rfl ?_
  refine J_aload_n rfl (i := 0) rfl dX10_init_35 ?_
  refine J_bipush (v := 8) (by decide) dX10_init_36 ?_
  refine J_newa (a := 16) (b := 16222) (sh' := (List.set (SH.take 69) 63 (.inl (10, [some (some 64), some (some 65), none, none, none, none, some (some 66), some (some 67), none, some none, some none, some none, none, some none, some none, none, some none, some none, none, none, none, none, none, none, none, none, some none, none, none, none, none, none, some none, some none, some none, some none, some none, some none, some none, some none, some none])))) (atype := .int) (ty := .int) (t := 0) (N := 8) rfl rfl 68 rfl (by decide) (fun j => (Zf.mono (by decide) hz) 68 j (Nat.le_refl _)) (fun h => absurd h (by decide)) rfl (by decide) (by decide) (Nat.le_of_ble_eq_true rfl) (fun C h => by cases h) gw_177 dX10_init_38 rfl ?_
  refine J_putFrE (sh' := (List.set (SH.take 69) 63 (.inl (10, [some (some 64), some (some 65), none, none, none, none, some (some 66), some (some 67), none, some (some 68), some none, some none, none, some none, some none, none, some none, some none, none, none, none, none, none, none, none, none, some none, none, none, none, none, none, some none, some none, some none, some none, some none, some none, some none, some none, some none])))) kls_10 (q := 63) (k := 9) rfl (by decide) rfl rfl rfl rfl (fun _ => rfl) (fun _ => rfl) gw_1442 dX10_init_40 rfl ?_
  refine J_aload_n rfl (i := 0) rfl dX10_init_43 ?_
  refine J_bipush (v := 8) (by decide) dX10_init_44 ?_
  refine J_newa (a := 15) (b := 16214) (sh' := (List.set (SH.take 70) 63 (.inl (10, [some (some 64), some (some 65), none, none, none, none, some (some 66), some (some 67), none, some (some 68), some none, some none, none, some none, some none, none, some none, some none, none, none, none, none, none, none, none, none, some none, none, none, none, none, none, some none, some none, some none, some none, some none, some none, some none, some none, some none])))) (atype := .int) (ty := .int) (t := 0) (N := 8) rfl rfl 69 rfl (by decide) (fun j => (Zf.mono (by decide) hz) 69 j (Nat.le_refl _)) (fun h => absurd h (by decide)) rfl (by decide) (by decide) (Nat.le_of_ble_eq_true rfl) (fun C h => by cases h) gw_177 dX10_init_46 rfl ?_
  refine J_putFrE (sh' := (List.set (SH.take 70) 63 (.inl (10, [some (some 64), some (some 65), none, none, none, none, some (some 66), some (some 67), none, some (some 68), some (some 69), some none, none, some none, some none, none, some none, some none, none, none, none, none, none, none, none, none, some none, none, none, none, none, none, some none, some none, some none, some none, some none, some none, some none, some none, some none])))) kls_10 (q := 63) (k := 10) rfl (by decide) rfl rfl rfl rfl (fun _ => rfl) (fun _ => rfl) gw_1443 dX10_init_48 rfl ?_
  refine J_aload_n rfl (i := 0) rfl dX10_init_51 ?_
  refine J_bipush (v := 8) (by decide) dX10_init_52 ?_
  refine J_newa (a := 14) (b := 16206) (sh' := (List.set (SH.take 71) 63 (.inl (10, [some (some 64), some (some 65), none, none, none, none, some (some 66), some (some 67), none, some (some 68), some (some 69), some none, none, some none, some none, none, some none, some none, none, none, none, none, none, none, none, none, some none, none, none, none, none, none, some none, some none, some none, some none, some none, some none, some none, some none, some none])))) (atype := .int) (ty := .int) (t := 0) (N := 8) rfl rfl 70 rfl (by decide) (fun j => (Zf.mono (by decide) hz) 70 j (Nat.le_refl _)) (fun h => absurd h (by decide)) rfl (by decide) (by decide) (Nat.le_of_ble_eq_true rfl) (fun C h => by cases h) gw_177 dX10_init_54 rfl ?_
  refine J_putFrE (sh' := (List.set (SH.take 71) 63 (.inl (10, [some (some 64), some (some 65), none, none, none, none, some (some 66), some (some 67), none, some (some 68), some (some 69), some (some 70), none, some none, some none, none, some none, some none, none, none, none, none, none, none, none, none, some none, none, none, none, none, none, some none, some none, some none, some none, some none, some none, some none, some none, some none])))) kls_10 (q := 63) (k := 11) rfl (by decide) rfl rfl rfl rfl (fun _ => rfl) (fun _ => rfl) gw_1444 dX10_init_56 rfl ?_
  refine J_aload_n rfl (i := 0) rfl dX10_init_59 ?_
  refine J_bipush (v := 6) (by decide) dX10_init_60 ?_
  refine J_newa (a := 13) (b := 16200) (sh' := (List.set (SH.take 72) 63 (.inl (10, [some (some 64), some (some 65), none, none, none, none, some (some 66), some (some 67), none, some (some 68), some (some 69), some (some 70), none, some none, some none, none, some none, some none, none, none, none, none, none, none, none, none, some none, none, none, none, none, none, some none, some none, some none, some none, some none, some none, some none, some none, some none])))) (atype := .int) (ty := .int) (t := 0) (N := 6) rfl rfl 71 rfl (by decide) (fun j => (Zf.mono (by decide) hz) 71 j (Nat.le_refl _)) (fun h => absurd h (by decide)) rfl (by decide) (by decide) (Nat.le_of_ble_eq_true rfl) (fun C h => by cases h) gw_177 dX10_init_62 rfl ?_
  refine J_putFrE (sh' := (List.set (SH.take 72) 63 (.inl (10, [some (some 64), some (some 65), none, none, none, none, some (some 66), some (some 67), none, some (some 68), some (some 69), some (some 70), none, some (some 71), some none, none, some none, some none, none, none, none, none, none, none, none, none, some none, none, none, none, none, none, some none, some none, some none, some none, some none, some none, some none, some none, some none])))) kls_10 (q := 63) (k := 13) rfl (by decide) rfl rfl rfl rfl (fun _ => rfl) (fun _ => rfl) gw_1446 dX10_init_64 rfl ?_
  refine J_aload_n rfl (i := 0) rfl dX10_init_67 ?_
  refine J_bipush (v := 6) (by decide) dX10_init_68 ?_
  refine J_newa (a := 12) (b := 16194) (sh' := (List.set (SH.take 73) 63 (.inl (10, [some (some 64), some (some 65), none, none, none, none, some (some 66), some (some 67), none, some (some 68), some (some 69), some (some 70), none, some (some 71), some none, none, some none, some none, none, none, none, none, none, none, none, none, some none, none, none, none, none, none, some none, some none, some none, some none, some none, some none, some none, some none, some none])))) (atype := .int) (ty := .int) (t := 0) (N := 6) rfl rfl 72 rfl (by decide) (fun j => (Zf.mono (by decide) hz) 72 j (Nat.le_refl _)) (fun h => absurd h (by decide)) rfl (by decide) (by decide) (Nat.le_of_ble_eq_true rfl) (fun C h => by cases h) gw_177 dX10_init_70 rfl ?_
  refine J_putFrE (sh' := (List.set (SH.take 73) 63 (.inl (10, [some (some 64), some (some 65), none, none, none, none, some (some 66), some (some 67), none, some (some 68), some (some 69), some (some 70), none, some (some 71), some (some 72), none, some none, some none, none, none, none, none, none, none, none, none, some none, none, none, none, none, none, some none, some none, some none, some none, some none, some none, some none, some none, some none])))) kls_10 (q := 63) (k := 14) rfl (by decide) rfl rfl rfl rfl (fun _ => rfl) (fun _ => rfl) gw_1447 dX10_init_72 rfl ?_
  refine J_aload_n rfl (i := 0) rfl dX10_init_75 ?_
  refine J_bipush (v := 8) (by decide) dX10_init_76 ?_
  refine J_newa (a := 11) (b := 16186) (sh' := (List.set (SH.take 74) 63 (.inl (10, [some (some 64), some (some 65), none, none, none, none, some (some 66), some (some 67), none, some (some 68), some (some 69), some (some 70), none, some (some 71), some (some 72), none, some none, some none, none, none, none, none, none, none, none, none, some none, none, none, none, none, none, some none, some none, some none, some none, some none, some none, some none, some none, some none])))) (atype := .int) (ty := .int) (t := 0) (N := 8) rfl rfl 73 rfl (by decide) (fun j => (Zf.mono (by decide) hz) 73 j (Nat.le_refl _)) (fun h => absurd h (by decide)) rfl (by decide) (by decide) (Nat.le_of_ble_eq_true rfl) (fun C h => by cases h) gw_177 dX10_init_78 rfl ?_
  refine J_putFrE (sh' := (List.set (SH.take 74) 63 (.inl (10, [some (some 64), some (some 65), none, none, none, none, some (some 66), some (some 67), none, some (some 68), some (some 69), some (some 70), none, some (some 71), some (some 72), none, some (some 73), some none, none, none, none, none, none, none, none, none, some none, none, none, none, none, none, some none, some none, some none, some none, some none, some none, some none, some none, some none])))) kls_10 (q := 63) (k := 16) rfl (by decide) rfl rfl rfl rfl (fun _ => rfl) (fun _ => rfl) gw_1449 dX10_init_80 rfl ?_
  refine J_aload_n rfl (i := 0) rfl dX10_init_83 ?_
  refine J_sipush (v := 400) (by decide) dX10_init_84 ?_
  refine J_newa (a := 10) (b := 15786) (sh' := (List.set (SH.take 75) 63 (.inl (10, [some (some 64), some (some 65), none, none, none, none, some (some 66), some (some 67), none, some (some 68), some (some 69), some (some 70), none, some (some 71), some (some 72), none, some (some 73), some none, none, none, none, none, none, none, none, none, some none, none, none, none, none, none, some none, some none, some none, some none, some none, some none, some none, some none, some none])))) (atype := .int) (ty := .int) (t := 0) (N := 400) rfl rfl 74 rfl (by decide) (fun j => (Zf.mono (by decide) hz) 74 j (Nat.le_refl _)) (fun h => absurd h (by decide)) rfl (by decide) (by decide) (Nat.le_of_ble_eq_true rfl) (fun C h => by cases h) gw_177 dX10_init_87 rfl ?_
  refine J_putFrE (sh' := (List.set (SH.take 75) 63 (.inl (10, [some (some 64), some (some 65), none, none, none, none, some (some 66), some (some 67), none, some (some 68), some (some 69), some (some 70), none, some (some 71), some (some 72), none, some (some 73), some (some 74), none, none, none, none, none, none, none, none, some none, none, none, none, none, none, some none, some none, some none, some none, some none, some none, some none, some none, some none])))) kls_10 (q := 63) (k := 17) rfl (by decide) rfl rfl rfl rfl (fun _ => rfl) (fun _ => rfl) gw_1450 dX10_init_89 rfl ?_
  refine J_aload_n rfl (i := 0) rfl dX10_init_92 ?_
  refine J_iconst (v := (-1)) (by decide) dX10_init_93 ?_
  refine J_puti kls_10 (q := 63) (k := 25) rfl (by decide) rfl rfl (fun _ => rfl) (fun _ => rfl) gw_1458 dX10_init_94 ?_
  refine J_aload_n rfl (i := 0) rfl dX10_init_97 ?_
  refine J_bipush (v := 64) (by decide) dX10_init_98 ?_
  refine J_newa (a := 9) (b := 15722) (sh' := (List.set (SH.take 76) 63 (.inl (10, [some (some 64), some (some 65), none, none, none, none, some (some 66), some (some 67), none, some (some 68), some (some 69), some (some 70), none, some (some 71), some (some 72), none, some (some 73), some (some 74), none, none, none, none, none, none, none, none, some none, none, none, none, none, none, some none, some none, some none, some none, some none, some none, some none, some none, some none])))) (atype := .int) (ty := .int) (t := 0) (N := 64) rfl rfl 75 rfl (by decide) (fun j => (Zf.mset (Zf.mono (by decide) hz) (by decide)) 75 j (Nat.le_refl _)) (fun h => absurd h (by decide)) rfl (by decide) (by decide) (Nat.le_of_ble_eq_true rfl) (fun C h => by cases h) gw_177 dX10_init_100 rfl ?_
  refine J_putFrE (sh' := (List.set (SH.take 76) 63 (.inl (10, [some (some 64), some (some 65), none, none, none, none, some (some 66), some (some 67), none, some (some 68), some (some 69), some (some 70), none, some (some 71), some (some 72), none, some (some 73), some (some 74), none, none, none, none, none, none, none, none, some (some 75), none, none, none, none, none, some none, some none, some none, some none, some none, some none, some none, some none, some none])))) kls_10 (q := 63) (k := 26) rfl (by decide) rfl rfl rfl rfl (fun _ => rfl) (fun _ => rfl) gw_1459 dX10_init_102 rfl ?_
  refine J_aload_n rfl (i := 0) rfl dX10_init_105 ?_
  refine J_bipush (v := 8) (by decide) dX10_init_106 ?_
  refine J_newa (a := 8) (b := 15714) (sh' := (List.set (SH.take 77) 63 (.inl (10, [some (some 64), some (some 65), none, none, none, none, some (some 66), some (some 67), none, some (some 68), some (some 69), some (some 70), none, some (some 71), some (some 72), none, some (some 73), some (some 74), none, none, none, none, none, none, none, none, some (some 75), none, none, none, none, none, some none, some none, some none, some none, some none, some none, some none, some none, some none])))) (atype := .int) (ty := .int) (t := 0) (N := 8) rfl rfl 76 rfl (by decide) (fun j => (Zf.mset (Zf.mono (by decide) hz) (by decide)) 76 j (Nat.le_refl _)) (fun h => absurd h (by decide)) rfl (by decide) (by decide) (Nat.le_of_ble_eq_true rfl) (fun C h => by cases h) gw_177 dX10_init_108 rfl ?_
  refine J_putFrE (sh' := (List.set (SH.take 77) 63 (.inl (10, [some (some 64), some (some 65), none, none, none, none, some (some 66), some (some 67), none, some (some 68), some (some 69), some (some 70), none, some (some 71), some (some 72), none, some (some 73), some (some 74), none, none, none, none, none, none, none, none, some (some 75), none, none, none, none, none, some (some 76), some none, some none, some none, some none, some none, some none, some none, some none])))) kls_10 (q := 63) (k := 32) rfl (by decide) rfl rfl rfl rfl (fun _ => rfl) (fun _ => rfl) gw_1465 dX10_init_110 rfl ?_
  refine J_aload_n rfl (i := 0) rfl dX10_init_113 ?_
  refine J_bipush (v := 8) (by decide) dX10_init_114 ?_
  refine J_newa (a := 7) (b := 15706) (sh' := (List.set (SH.take 78) 63 (.inl (10, [some (some 64), some (some 65), none, none, none, none, some (some 66), some (some 67), none, some (some 68), some (some 69), some (some 70), none, some (some 71), some (some 72), none, some (some 73), some (some 74), none, none, none, none, none, none, none, none, some (some 75), none, none, none, none, none, some (some 76), some none, some none, some none, some none, some none, some none, some none, some none])))) (atype := .int) (ty := .int) (t := 0) (N := 8) rfl rfl 77 rfl (by decide) (fun j => (Zf.mset (Zf.mono (by decide) hz) (by decide)) 77 j (Nat.le_refl _)) (fun h => absurd h (by decide)) rfl (by decide) (by decide) (Nat.le_of_ble_eq_true rfl) (fun C h => by cases h) gw_177 dX10_init_116 rfl ?_
  refine J_putFrE (sh' := (List.set (SH.take 78) 63 (.inl (10, [some (some 64), some (some 65), none, none, none, none, some (some 66), some (some 67), none, some (some 68), some (some 69), some (some 70), none, some (some 71), some (some 72), none, some (some 73), some (some 74), none, none, none, none, none, none, none, none, some (some 75), none, none, none, none, none, some (some 76), some (some 77), some none, some none, some none, some none, some none, some none, some none])))) kls_10 (q := 63) (k := 33) rfl (by decide) rfl rfl rfl rfl (fun _ => rfl) (fun _ => rfl) gw_1466 dX10_init_118 rfl ?_
  refine J_aload_n rfl (i := 0) rfl dX10_init_121 ?_
  refine J_bipush (v := 8) (by decide) dX10_init_122 ?_
  refine J_newa (a := 6) (b := 15698) (sh' := (List.set (SH.take 79) 63 (.inl (10, [some (some 64), some (some 65), none, none, none, none, some (some 66), some (some 67), none, some (some 68), some (some 69), some (some 70), none, some (some 71), some (some 72), none, some (some 73), some (some 74), none, none, none, none, none, none, none, none, some (some 75), none, none, none, none, none, some (some 76), some (some 77), some none, some none, some none, some none, some none, some none, some none])))) (atype := .int) (ty := .int) (t := 0) (N := 8) rfl rfl 78 rfl (by decide) (fun j => (Zf.mset (Zf.mono (by decide) hz) (by decide)) 78 j (Nat.le_refl _)) (fun h => absurd h (by decide)) rfl (by decide) (by decide) (Nat.le_of_ble_eq_true rfl) (fun C h => by cases h) gw_177 dX10_init_124 rfl ?_
  refine J_putFrE (sh' := (List.set (SH.take 79) 63 (.inl (10, [some (some 64), some (some 65), none, none, none, none, some (some 66), some (some 67), none, some (some 68), some (some 69), some (some 70), none, some (some 71), some (some 72), none, some (some 73), some (some 74), none, none, none, none, none, none, none, none, some (some 75), none, none, none, none, none, some (some 76), some (some 77), some (some 78), some none, some none, some none, some none, some none, some none])))) kls_10 (q := 63) (k := 34) rfl (by decide) rfl rfl rfl rfl (fun _ => rfl) (fun _ => rfl) gw_1467 dX10_init_126 rfl ?_
  refine J_aload_n rfl (i := 0) rfl dX10_init_129 ?_
  refine J_sipush (v := 6561) (by decide) dX10_init_130 ?_
  refine J_newa (a := 5) (b := 9137) (sh' := (List.set (SH.take 80) 63 (.inl (10, [some (some 64), some (some 65), none, none, none, none, some (some 66), some (some 67), none, some (some 68), some (some 69), some (some 70), none, some (some 71), some (some 72), none, some (some 73), some (some 74), none, none, none, none, none, none, none, none, some (some 75), none, none, none, none, none, some (some 76), some (some 77), some (some 78), some none, some none, some none, some none, some none, some none])))) (atype := .int) (ty := .int) (t := 0) (N := 6561) rfl rfl 79 rfl (by decide) (fun j => (Zf.mset (Zf.mono (by decide) hz) (by decide)) 79 j (Nat.le_refl _)) (fun h => absurd h (by decide)) rfl (by decide) (by decide) (Nat.le_of_ble_eq_true rfl) (fun C h => by cases h) gw_177 dX10_init_133 rfl ?_
  refine J_putFrE (sh' := (List.set (SH.take 80) 63 (.inl (10, [some (some 64), some (some 65), none, none, none, none, some (some 66), some (some 67), none, some (some 68), some (some 69), some (some 70), none, some (some 71), some (some 72), none, some (some 73), some (some 74), none, none, none, none, none, none, none, none, some (some 75), none, none, none, none, none, some (some 76), some (some 77), some (some 78), some (some 79), some none, some none, some none, some none, some none])))) kls_10 (q := 63) (k := 35) rfl (by decide) rfl rfl rfl rfl (fun _ => rfl) (fun _ => rfl) gw_1468 dX10_init_135 rfl ?_
  refine J_aload_n rfl (i := 0) rfl dX10_init_138 ?_
  refine J_sipush (v := 6561) (by decide) dX10_init_139 ?_
  refine J_newa (a := 4) (b := 2576) (sh' := (List.set (SH.take 81) 63 (.inl (10, [some (some 64), some (some 65), none, none, none, none, some (some 66), some (some 67), none, some (some 68), some (some 69), some (some 70), none, some (some 71), some (some 72), none, some (some 73), some (some 74), none, none, none, none, none, none, none, none, some (some 75), none, none, none, none, none, some (some 76), some (some 77), some (some 78), some (some 79), some none, some none, some none, some none, some none])))) (atype := .int) (ty := .int) (t := 0) (N := 6561) rfl rfl 80 rfl (by decide) (fun j => (Zf.mset (Zf.mono (by decide) hz) (by decide)) 80 j (Nat.le_refl _)) (fun h => absurd h (by decide)) rfl (by decide) (by decide) (Nat.le_of_ble_eq_true rfl) (fun C h => by cases h) gw_177 dX10_init_142 rfl ?_
  refine J_putFrE (sh' := (List.set (SH.take 81) 63 (.inl (10, [some (some 64), some (some 65), none, none, none, none, some (some 66), some (some 67), none, some (some 68), some (some 69), some (some 70), none, some (some 71), some (some 72), none, some (some 73), some (some 74), none, none, none, none, none, none, none, none, some (some 75), none, none, none, none, none, some (some 76), some (some 77), some (some 78), some (some 79), some (some 80), some none, some none, some none, some none])))) kls_10 (q := 63) (k := 36) rfl (by decide) rfl rfl rfl rfl (fun _ => rfl) (fun _ => rfl) gw_1469 dX10_init_144 rfl ?_
  refine J_aload_n rfl (i := 0) rfl dX10_init_147 ?_
  refine J_sipush (v := 2304) (by decide) dX10_init_148 ?_
  refine J_newa (a := 3) (b := 272) (sh' := (List.set (SH.take 82) 63 (.inl (10, [some (some 64), some (some 65), none, none, none, none, some (some 66), some (some 67), none, some (some 68), some (some 69), some (some 70), none, some (some 71), some (some 72), none, some (some 73), some (some 74), none, none, none, none, none, none, none, none, some (some 75), none, none, none, none, none, some (some 76), some (some 77), some (some 78), some (some 79), some (some 80), some none, some none, some none, some none])))) (atype := .int) (ty := .int) (t := 0) (N := 2304) rfl rfl 81 rfl (by decide) (fun j => (Zf.mset (Zf.mono (by decide) hz) (by decide)) 81 j (Nat.le_refl _)) (fun h => absurd h (by decide)) rfl (by decide) (by decide) (Nat.le_of_ble_eq_true rfl) (fun C h => by cases h) gw_177 dX10_init_151 rfl ?_
  refine J_putFrE (sh' := (List.set (SH.take 82) 63 (.inl (10, [some (some 64), some (some 65), none, none, none, none, some (some 66), some (some 67), none, some (some 68), some (some 69), some (some 70), none, some (some 71), some (some 72), none, some (some 73), some (some 74), none, none, none, none, none, none, none, none, some (some 75), none, none, none, none, none, some (some 76), some (some 77), some (some 78), some (some 79), some (some 80), some (some 81), some none, some none, some none])))) kls_10 (q := 63) (k := 37) rfl (by decide) rfl rfl rfl rfl (fun _ => rfl) (fun _ => rfl) gw_1470 dX10_init_153 rfl ?_
  refine J_aload_n rfl (i := 0) rfl dX10_init_156 ?_
  refine J_bipush (v := 8) (by decide) dX10_init_157 ?_
  refine J_newa (a := 2) (b := 264) (sh' := (List.set (SH.take 83) 63 (.inl (10, [some (some 64), some (some 65), none, none, none, none, some (some 66), some (some 67), none, some (some 68), some (some 69), some (some 70), none, some (some 71), some (some 72), none, some (some 73), some (some 74), none, none, none, none, none, none, none, none, some (some 75), none, none, none, none, none, some (some 76), some (some 77), some (some 78), some (some 79), some (some 80), some (some 81), some none, some none, some none])))) (atype := .int) (ty := .int) (t := 0) (N := 8) rfl rfl 82 rfl (by decide) (fun j => (Zf.mset (Zf.mono (by decide) hz) (by decide)) 82 j (Nat.le_refl _)) (fun h => absurd h (by decide)) rfl (by decide) (by decide) (Nat.le_of_ble_eq_true rfl) (fun C h => by cases h) gw_177 dX10_init_159 rfl ?_
  refine J_putFrE (sh' := (List.set (SH.take 83) 63 (.inl (10, [some (some 64), some (some 65), none, none, none, none, some (some 66), some (some 67), none, some (some 68), some (some 69), some (some 70), none, some (some 71), some (some 72), none, some (some 73), some (some 74), none, none, none, none, none, none, none, none, some (some 75), none, none, none, none, none, some (some 76), some (some 77), some (some 78), some (some 79), some (some 80), some (some 81), some (some 82), some none, some none])))) kls_10 (q := 63) (k := 38) rfl (by decide) rfl rfl rfl rfl (fun _ => rfl) (fun _ => rfl) gw_1471 dX10_init_161 rfl ?_
  refine J_aload_n rfl (i := 0) rfl dX10_init_164 ?_
  refine J_bipush (v := 8) (by decide) dX10_init_165 ?_
  refine J_newa (a := 1) (b := 256) (sh' := (List.set (SH.take 84) 63 (.inl (10, [some (some 64), some (some 65), none, none, none, none, some (some 66), some (some 67), none, some (some 68), some (some 69), some (some 70), none, some (some 71), some (some 72), none, some (some 73), some (some 74), none, none, none, none, none, none, none, none, some (some 75), none, none, none, none, none, some (some 76), some (some 77), some (some 78), some (some 79), some (some 80), some (some 81), some (some 82), some none, some none])))) (atype := .int) (ty := .int) (t := 0) (N := 8) rfl rfl 83 rfl (by decide) (fun j => (Zf.mset (Zf.mono (by decide) hz) (by decide)) 83 j (Nat.le_refl _)) (fun h => absurd h (by decide)) rfl (by decide) (by decide) (Nat.le_of_ble_eq_true rfl) (fun C h => by cases h) gw_177 dX10_init_167 rfl ?_
  refine J_putFrE (sh' := (List.set (SH.take 84) 63 (.inl (10, [some (some 64), some (some 65), none, none, none, none, some (some 66), some (some 67), none, some (some 68), some (some 69), some (some 70), none, some (some 71), some (some 72), none, some (some 73), some (some 74), none, none, none, none, none, none, none, none, some (some 75), none, none, none, none, none, some (some 76), some (some 77), some (some 78), some (some 79), some (some 80), some (some 81), some (some 82), some (some 83), some none])))) kls_10 (q := 63) (k := 39) rfl (by decide) rfl rfl rfl rfl (fun _ => rfl) (fun _ => rfl) gw_1472 dX10_init_169 rfl ?_
  refine J_aload_n rfl (i := 0) rfl dX10_init_172 ?_
  refine J_sipush (v := 256) (by decide) dX10_init_173 ?_
  refine J_newa (a := 0) (b := 0) (sh' := (List.set (SH.take 85) 63 (.inl (10, [some (some 64), some (some 65), none, none, none, none, some (some 66), some (some 67), none, some (some 68), some (some 69), some (some 70), none, some (some 71), some (some 72), none, some (some 73), some (some 74), none, none, none, none, none, none, none, none, some (some 75), none, none, none, none, none, some (some 76), some (some 77), some (some 78), some (some 79), some (some 80), some (some 81), some (some 82), some (some 83), some none])))) (atype := .int) (ty := .int) (t := 0) (N := 256) rfl rfl 84 rfl (by decide) (fun j => (Zf.mset (Zf.mono (by decide) hz) (by decide)) 84 j (Nat.le_refl _)) (fun h => absurd h (by decide)) rfl (by decide) (by decide) (Nat.le_of_ble_eq_true rfl) (fun C h => by cases h) gw_177 dX10_init_176 rfl ?_
  refine J_putFrE (sh' := (SH.take 85)) kls_10 (q := 63) (k := 40) rfl (by decide) rfl rfl rfl rfl (fun _ => rfl) (fun _ => rfl) gw_1473 dX10_init_178 rfl ?_
  exact J_finv rfl dX10_init_181 ⟨rfl, rfl⟩
