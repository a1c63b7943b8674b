/-! ===== making: new cells are the next places of the world ===== -/
section Make
variable {G : Gx} {M : Md} {pc : Nat} {L : List (Nat × Value)} {st : List Value} {o : Ou} {z : Wd} {h : Bool} {a b : Nat} {sh sh' : List Sh} {mm : Nat → Nat → Int32} {lm : Nat → Int64}
theorem cw_push {x : Sh} : cw G (sh ++ [x], mm, lm) = cw G (sh, mm, lm) ++ [(adr G sh.length, cc G (sh, mm, lm) sh.length x)] := by
  simp only [cw, List.mapIdx_append, List.mapIdx_cons, List.mapIdx_nil, Nat.zero_add]
  congr 1
theorem Rl_push {s : State} {H H1 : Heap} {locs : List Loc} {x : Sh} (hR : Rl G s H locs (sh, mm, lm) true) (hn : sh.length < 1000) (he : va_at (Gd G) vwCl (H.size, cc G (sh, mm, lm) sh.length x) H1) (z1 : H1.size = H.size + 1) (o1 : ∀ q : Nat, q < H.size → H1[q]? = H[q]?) (hb : Gb G ≤ s.heap.size) : Rl G s H1 locs (sh ++ [x], mm, lm) true := by
  obtain ⟨hP, hS, hl, hg⟩ := hR
  have hsz := hg rfl
  refine ⟨?_, ⟨Nat.le_trans hS.1 (by omega), fun q h1 h2 => (o1 q (Nat.lt_of_lt_of_le h1 hS.1)).trans (hS.2.1 q h1 h2), hS.2.2⟩, by simp; omega, fun _ => by rw [z1, hsz]; simp; omega⟩
  rw [cw_push]
  refine (hP.kept fun k q hk => o1 q.1 ((hP k q hk).lt)).app (fun k q hk => ?_)
  have hz : k < 1 := (List.getElem?_eq_some_iff.mp hk).1
  rw [show k = 0 by omega] at hk
  cases hk
  rw [adr_lt hn, ← hsz]
  exact he
theorem J_new {ci : Nat} {Cn : String} {T : u_T} {N : Nat} {ty : Nat → FieldType} (hK : Kls ci Cn T N ty) {idx : Nat} {sl : List (Option (Option Nat))} (n : Nat) (hn : sh.length = n) (hn2 : n < 1000) (hz : ∀ j, mm n j = 0) (hfs : (List.range N).map (fun j => defaultValue (ty j)) = sl.mapIdx (fv G (fun _ => 0)))
    (hc : Cond.classLink (mY M).cls idx Cn ∈ gt) (hi : Cond.instantiable Cn N ∈ gt) (hini : Cond.initialized Cn ∈ gt) (hd : decode (mC M) pc = .ok (.new idx, 3)) (hsh : sh ++ [.inl (ci, sl)] = sh')
    (kk : J G M (pc + 3) L (.ref n :: st) (sh', mm, lm) true o z h a b) : J G M pc L st (sh, mm, lm) true o z h (a + 1) (b + N) := by
  subst hsh; subst hn
  intro p e R s m args below meth c C H locs ls cells slots hR hl ha hb
  have hts := C.2.2.2.2.2.2.2.1
  have hKs := C.2.2.2.2.2.2.2.2.1
  have hKn := hKs.1 ci _ hK.1
  have hsz := hR.2.2.2 rfl
  refine W.newcK C.1 C.2.1 C.2.2.2.2.2.1 (hts _ hc) (hts _ hi) (hts _ hini) rfl hd (by omega) (by omega) hKn.2.1 rfl fun H1 kC hkC e1 z1 o1 => ?_
  have hR1 : Rl G s H1 locs (sh ++ [.inl (ci, sl)], mm, lm) true := by
    refine Rl_push hR hn2 ⟨_, hK.1, (u_born ty hts hK.2.1 hKn hkC e1 hK.2.2.1).to (fun j hj => ?_)⟩ z1 o1 C.2.2.2.2.2.2.2.2.2.2.2.1
    have e0 : mm sh.length = fun _ => 0 := funext hz
    show defaultValue (ty j) = vp_V (sl.mapIdx (fv G (mm sh.length))) j
    rw [e0, ← hfs]
    simp [vp_V, hj]
  have q := kk p e R s m args below meth c C H1 locs ls (cells + 1) (slots + N) hR1 hl (by omega) (by omega)
  rw [List.map_cons] at q
  have e2 : cv G (.ref sh.length) = .ref H.size := by show Value.ref (adr G sh.length) = _; rw [adr_lt hn2, ← hsz]
  rw [e2] at q
  rw [show cells + (a + 1) = cells + 1 + a by omega, show slots + (b + N) = slots + N + b by omega]
  exact q
theorem tysG_at {t : Nat} {ty : FieldType} (h : (tysG G)[t]? = some (Gt G t, ty)) {s : State} (hK : va_K (Gd G) vwCl (tysG G) s) {cA : ClassId} (hNm : va_RA s cA ty) : cA = Gt G t := by
  have h2 := (hK.2 t _ h).2
  cases ty with
  | object Cn =>
    obtain ⟨k1, c1, a1, a2, a3, a4⟩ := h2
    obtain ⟨k2, c2, b1, b2, b3, b4⟩ := hNm
    exact Option.some.inj (b4.symm.trans a4)
  | _ =>
    exact Option.some.inj ((show s.vm.findClass _ = some cA from hNm).symm.trans (show s.vm.findClass _ = some (Gt G t) from h2))
theorem J_newa {atype : ArrayType} {ty : FieldType} {t N : Nat} {v : Int32} (hty : newarray.typeOf atype = ty) (ht : (tysG G)[t]? = some (Gt G t, ty)) (n : Nat) (hn : sh.length = n) (hn2 : n < 1000) (hz : ∀ j, mm n j = 0) (hlz : t = 3 → ∀ j, lm j = 0) (hdef : defaultValue ty = if t = 3 then .long 0 else .int 0) (hv : ¬ v < 0) (hN : v.toNatClampNeg = N) (hby : N * componentBytes ty ≤ 536870912) (hnr : ∀ C, ty ≠ .object C)
    (hw : Cond.arrayClass ty ∈ gt) (hd : decode (mC M) pc = .ok (.newarray atype, 2)) (hsh : sh ++ [.inr (.inl (t, N))] = sh')
    (kk : J G M (pc + 2) L (.ref n :: st) (sh', mm, lm) true o z h a b) : J G M pc L (.int v :: st) (sh, mm, lm) true o z h (a + 1) (b + N) := by
  subst hsh; subst hn; subst hty
  intro p e R s m args below meth c C H locs ls cells slots hR hl ha hb
  have hts := C.2.2.2.2.2.2.2.1
  have hKs := C.2.2.2.2.2.2.2.2.1
  have hsz := hR.2.2.2 rfl
  refine va_newaK C.1 C.2.1 (hts _ hw) rfl hd rfl hv hN hby (by omega) (by omega) rfl fun H1 cA e1 z1 o1 hAr hNm => ?_
  have hcA : cA = Gt G t := tysG_at ht hKs (by cases atype <;> exact hNm)
  have hR1 : Rl G s H1 locs (sh ++ [.inr (.inl (t, N))], mm, lm) true := by
    refine Rl_push hR hn2 ?_ z1 o1 C.2.2.2.2.2.2.2.2.2.2.2.1
    show H1[H.size]? = some (vp_cell (Gt G t) (N, if t = 3 then .inr (.inl lm) else .inl (mm sh.length)))
    rw [e1, hcA]
    congr 1
    by_cases h3 : t = 3
    · have e0 : lm = fun _ => 0 := funext (hlz h3)
      rw [if_pos h3, vp_cell_l, e0, hdef, if_pos h3]
    · have e0 : mm sh.length = fun _ => 0 := funext hz
      rw [if_neg h3, vp_cell_i, e0, hdef, if_neg h3]
  have q := kk p e R s m args below meth c C H1 locs ls (cells + 1) (slots + N) hR1 hl (by omega) (by omega)
  rw [List.map_cons] at q
  have e2 : cv G (.ref sh.length) = .ref H.size := by show Value.ref (adr G sh.length) = _; rw [adr_lt hn2, ← hsz]
  rw [e2] at q
  rw [show cells + (a + 1) = cells + 1 + a by omega, show slots + (b + N) = slots + N + b by omega]
  exact q
theorem J_newq {idx N : Nat} {v : Int32} (n : Nat) (hn : sh.length = n) (hn2 : n < 1000) (hv : ¬ v < 0) (hN : v.toNatClampNeg = N) (hby : N * 4 ≤ 536870912) (f : Nat → Option Nat) (hf : ∀ j, f j = none)
    (hc : Cond.classLink (mY M).cls idx "BellTowerPlanner$BellState" ∈ gt) (hd : decode (mC M) pc = .ok (.anewarray idx, 3)) (hsh : sh ++ [.inr (.inr (4, N, f))] = sh')
    (kk : J G M (pc + 3) L (.ref n :: st) (sh', mm, lm) true o z h a b) : J G M pc L (.int v :: st) (sh, mm, lm) true o z h (a + 1) (b + N) := by
  subst hsh; subst hn; subst hN
  intro p e R s m args below meth c C H locs ls cells slots hR hl ha hb
  have hts := C.2.2.2.2.2.2.2.1
  have hKs := C.2.2.2.2.2.2.2.2.1
  have hsz := hR.2.2.2 rfl
  refine W.anew C.1 C.2.1 C.2.2.2.2.2.1 (hts _ hc) (va_AO.use (C.2.2.2.2.2.2.2.2.2.1.2.2.2.2.2.2.2.2)) rfl hd rfl hv hby (by omega) (by omega) fun cA kA comp f1 f2 f3 f4 => ?_
  generalize hH1 : H.push ({ cls := cA, slots := Array.replicate v.toNatClampNeg .null, vm := .none } : Cell) = H1
  have z1 : H1.size = H.size + 1 := by rw [← hH1, Array.size_push]
  have e1 : H1[H.size]? = some (arrV cA v.toNatClampNeg (fun _ => .null)) := by rw [← hH1, Array.getElem?_push_size, ← arrV_new]
  have o1 : ∀ q : Nat, q < H.size → H1[q]? = H[q]? := fun q hq => by rw [← hH1, Array.getElem?_push, if_neg (Nat.ne_of_lt hq)]
  have hcA : cA = Gt G 4 := tysG_at (t := 4) (ty := .object "BellTowerPlanner$BellState") rfl hKs ⟨kA, comp, f2, f3, f4, f1⟩
  have hR1 : Rl G s H1 locs (sh ++ [.inr (.inr (4, v.toNatClampNeg, f))], mm, lm) true := by
    refine Rl_push hR hn2 ?_ z1 o1 C.2.2.2.2.2.2.2.2.2.2.2.1
    show H1[H.size]? = some (vp_cell (Gt G 4) (v.toNatClampNeg, .inr (.inr (.inr (.inr fun j => (f j).map (adr G))))))
    rw [e1, hcA, vp_cell_q]
    congr 2
    funext j
    simp [hf, va_rf]
  have q := kk p e R s m args below meth c C H1 locs ls (cells + 1) (slots + v.toNatClampNeg) hR1 hl (by omega) (by omega)
  rw [List.map_cons] at q
  have e2 : cv G (.ref sh.length) = .ref H.size := by show Value.ref (adr G sh.length) = _; rw [adr_lt hn2, ← hsz]
  rw [e2] at q
  rw [show cells + (a + 1) = cells + 1 + a by omega, show slots + (b + v.toNatClampNeg) = slots + v.toNatClampNeg + b by omega]
  exact q
/-- a reference into a row of references, in the making -/
theorem J_aast {q n j r : Nat} {g : Bool} {f f' : Nat → Option Nat} {i : Int32} {sl : List (Option (Option Nat))} (hs : sh[q]? = some (.inr (.inr (4, n, f)))) (hr : sh[r]? = some (.inl (0, sl))) (hi : i = nI j) (hj : j < n) (hn : n < 2 ^ 31) (hf : ∀ k, f' k = va_up f j (some r) k) (hd : decode (mC M) pc = .ok (.aastore, 1)) (hsh : sh.set q (.inr (.inr (4, n, f'))) = sh')
    (kk : J G M (pc + 1) L st (sh', mm, lm) g o z h a b) : J G M pc L (.ref r :: .int i :: .ref q :: st) (sh, mm, lm) g o z h a b := by
  subst hsh
  intro p e R s m args below meth c C H locs ls cells slots hR hl ha hb
  obtain ⟨hi1, hi2⟩ := vp_inE hi hj hn
  have hKs := C.2.2.2.2.2.2.2.2.1
  have hlt : i.toNatClampNeg < n := by omega
  have h0 : ¬ i < 0 := fun q => hi1 (Or.inl q)
  obtain ⟨r', hr', cellV, g1, g2, g3, -⟩ := hR.1 r _ (cw_at (w := (sh, mm, lm)) hr)
  have hcl : vwCl[0]? = some (RX0, TX0, 8) := rfl
  have hcls := (hKs.1 0 _ hcl).2
  obtain ⟨kA, comp, k1, k2, k3, -⟩ := (hKs.2 4 (Gt G 4, .object "BellTowerPlanner$BellState") rfl).2
  have hcomp : comp = (Gd G).1 0 := Option.some.inj (k3.symm.trans hcls.1)
  subst hcomp
  obtain ⟨kC, hkC, -⟩ := hcls.2
  have hc0 : H[adr G q]? = some (vp_cell (Gt G 4) (n, .inr (.inr (.inr (.inr fun j => (f j).map (adr G)))))) := hR.1 q _ (cw_at (w := (sh, mm, lm)) hs)
  refine W.aast C.1 C.2.1 hc0 (fun q h => by cases h) (fun h => by cases h) k1 k2 rfl hkC ⟨h0, by show _ < (arrV _ _ _).slots.size; rw [arrV_size]; exact hlt⟩ g1 (fun q h => by rw [g3] at h; cases h) (by rw [g2]; exact hkC) (by rw [g2]; exact va_assign hcls) rfl rfl hd fun H1 e9 z oq => ?_
  refine kk p e R s m args below meth c C H1 _ ls cells slots (Rl_put (w' := (sh.set q (.inr (.inr (4, n, f'))), mm, lm)) hR hs rfl (fun a y _ _ => cc_sh a y) ?_ z oq) hl ha hb
  show H1[adr G q]? = some (vp_cell (Gt G 4) (n, .inr (.inr (.inr (.inr fun j => (f' j).map (adr G))))))
  rw [e9, vp_cell_q, vp_cell_q, arrV_store]
  congr 2
  funext k
  rw [hf k, hi2]
  by_cases hk : k = j
  · subst hk
    simp [updV, va_up, va_rf]
  · simp [updV, va_up, hk]
/-- a final reference of an object in the making, the new shape by name -/
theorem J_putFrE {g : Bool} {ci : Nat} {Cn : String} {T : u_T} {N : Nat} {ty : Nat → FieldType} (hK : Kls ci Cn T N ty) {idx q k : Nat} {sl : List (Option (Option Nat))} (hs : sh[q]? = some (.inl (ci, sl))) (hk : k < N) {r : Nat} {y : Option Nat} (ho : sl[k]? = some (some y)) (hfin : (T k).2.2.2 = true) (hm : (mY M).name = "<init>") (hdc : (T k).1 = (mY M).cls) (hn : ∀ y : Nat, narrow (ty k) (.ref y) = .ref y) (hfit : ∀ y : Nat, fits (ty k) (.ref y) = true) (hw : Cond.fieldLink (mY M).cls idx (T k).1 (T k).2.1 (T k).2.2.1 ∈ gt) (hd : decode (mC M) pc = .ok (.putfield idx, 3)) (hsh : sh.set q (.inl (ci, sl.set k (some (some r)))) = sh') (kk : J G M (pc + 3) L st (sh', mm, lm) g o z h a b) : J G M pc L (.ref r :: .ref q :: st) (sh, mm, lm) g o z h a b := by
  subst hsh
  exact J_putFr hK hs hk ho hfin hm hdc hn hfit hw hd kk
end Make
section Strings
variable {G : Gx} {M Mc : Md} {pc : Nat} {L L' : List (Nat × Value)} {st stk : List Value} {w z z1 : Wd} {g g1 h : Bool} {o : Ou} {a b a1 b1 a2 b2 : Nat} {q v : Nat} {l : List Int32}
/-- the fields of a keyword's text -/
theorem J_sgetV {idx : Nat} (ht : (q, v, l) ∈ kwS) (hw : Cond.fieldLink (mY M).cls idx "java/lang/String" "value" "[B" ∈ gt) (hd : decode (mC M) pc = .ok (.getfield idx, 3)) (kk : J G M (pc + 3) L (.ref v :: st) w g o z h a b) : J G M pc L (.ref q :: st) w g o z h a b :=
  fun p e R s m args below meth c C H locs ls cells slots hR hl ha hb => vk_getf C.1 C.2.1 (C.2.2.2.2.2.2.2.2.2.1.2.2.2.2.2.1 _ ht).2.2.1 hR.2.1 C.2.2.2.2.2.1 (C.2.2.2.2.2.2.2.1 _ hw) (fun _ h => h) hd (kk p e R s m args below meth c C H locs ls cells slots hR hl ha hb)
theorem J_sgetC {idx : Nat} (ht : (q, v, l) ∈ kwS) (hw : Cond.fieldLink (mY M).cls idx "java/lang/String" "coder" "B" ∈ gt) (hd : decode (mC M) pc = .ok (.getfield idx, 3)) (kk : J G M (pc + 3) L (.int 0 :: st) w g o z h a b) : J G M pc L (.ref q :: st) w g o z h a b :=
  fun p e R s m args below meth c C H locs ls cells slots hR hl ha hb => vk_getf C.1 C.2.1 (C.2.2.2.2.2.2.2.2.2.1.2.2.2.2.2.1 _ ht).2.1 hR.2.1 C.2.2.2.2.2.1 (C.2.2.2.2.2.2.2.1 _ hw) (fun _ h => h) hd (kk p e R s m args below meth c C H locs ls cells slots hR hl ha hb)
theorem J_salen {x : Int32} (ht : (q, v, l) ∈ kwS) (hx : Int32.ofNat l.length = x) (hd : decode (mC M) pc = .ok (.arraylength, 1)) (kk : J G M (pc + 1) L (.int x :: st) w g o z h a b) : J G M pc L (.ref v :: st) w g o z h a b :=
  fun p e R s m args below meth c C H locs ls cells slots hR hl ha hb => va_tlen C.1 C.2.1 (C.2.2.2.2.2.2.2.2.2.1.2.2.2.2.2.1 _ ht).2.2.2 hR.2.1 hx hd (kk p e R s m args below meth c C H locs ls cells slots hR hl ha hb)
theorem J_sbald {i : Int32} {j : Nat} (ht : (q, v, l) ∈ kwS) (hi : i = nI j) (hj : j < l.length) (hn : l.length < 2 ^ 31) (hd : decode (mC M) pc = .ok (.baload, 1)) (kk : J G M (pc + 1) L (.int (l.getD j 0) :: st) w g o z h a b) : J G M pc L (.int i :: .ref v :: st) w g o z h a b :=
  fun p e R s m args below meth c C H locs ls cells slots hR hl ha hb => by
  obtain ⟨h1, h2⟩ := vp_inE hi hj hn
  exact va_tb C.1 C.2.1 (C.2.2.2.2.2.2.2.2.2.1.2.2.2.2.2.1 _ ht).2.2.2 hR.2.1 h1 rfl hd (by rw [h2]; exact kk p e R s m args below meth c C H locs ls cells slots hR hl ha hb)
theorem J_sgets {idx : Nat} (hw : Cond.fieldLink (mY M).cls idx "java/lang/String" "COMPACT_STRINGS" "Z" ∈ gt) (hd : decode (mC M) pc = .ok (.getstatic idx, 3)) (kk : J G M (pc + 3) L (.int 1 :: st) w g o z h a b) : J G M pc L st w g o z h a b :=
  fun p e R s m args below meth c C H locs ls cells slots hR hl ha hb => va_gets C.1 C.2.1 C.2.2.2.2.2.2.2.2.2.1.2.2.2.2.2.2.1.1 hR.2.1 C.2.2.2.2.2.1 (C.2.2.2.2.2.2.2.1 _ hw) (fun _ h => h) hd (kk p e R s m args below meth c C H locs ls cells slots hR hl ha hb)
theorem J_sgetF {idx : Nat} (hw : Cond.fieldLink (mY M).cls idx "jdk/internal/util/Preconditions" "SIOOBE_FORMATTER" "Ljava/util/function/BiFunction;" ∈ gt) (hd : decode (mC M) pc = .ok (.getstatic idx, 3)) (kk : ∀ x : Value, (x = .null ∨ x = .ref 1005) → J G M (pc + 3) L (x :: st) w g o z h a b) : J G M pc L st w g o z h a b :=
  fun p e R s m args below meth c C H locs ls cells slots hR hl ha hb => by
  obtain ⟨x, hx, hz⟩ := C.2.2.2.2.2.2.2.2.2.1.2.2.2.2.2.2.1.2
  exact va_gets C.1 C.2.1 hz hR.2.1 C.2.2.2.2.2.1 (C.2.2.2.2.2.2.2.1 _ hw) (fun _ h => h) hd (kk x hx p e R s m args below meth c C H locs ls cells slots hR hl ha hb)
theorem J_pop {x : Int32} (hd : decode (mC M) pc = .ok (.pop, 1)) (kk : J G M (pc + 1) L st w g o z h a b) : J G M pc L (.int x :: st) w g o z h a b :=
  fun p e R s m args below meth c C H locs ls cells slots hR hl ha hb => lv_pop C.1 C.2.1 hd rfl (kk p e R s m args below meth c C H locs ls cells slots hR hl ha hb)
theorem J_i2c {x y : Int32} (hy : narrow .char (.int x) = .int y) (hd : decode (mC M) pc = .ok (.i2c, 1)) (kk : J G M (pc + 1) L (.int y :: st) w g o z h a b) : J G M pc L (.int x :: st) w g o z h a b :=
  fun p e R s m args below meth c C H locs ls cells slots hR hl ha hb => lv_i2c C.1 C.2.1 hd (by injection hy) (kk p e R s m args below meth c C H locs ls cells slots hR hl ha hb)
/-- a call on a keyword's text -/
theorem J_callT {as : List Value} {idx : Nat} {r : Option Value} (ht : (q, v, l) ∈ kwS) (hc : Cal Mc) (hcl : (mY Mc).cls = "java/lang/String") (hi : Cond.instanceMethod (mY Mc) ∈ gt ∧ Cond.selects (mY Mc).cls (mY Mc) (mY Mc) ∈ gt) (hl : Cond.methodLink (mY M).cls idx (mY Mc) ∈ gt) (hr : Rm M Mc) (hn : Cnt Mc as.length)
    (hstk : stk = as.reverse ++ .ref q :: st) (hsum : (st.map fun v => v.category).sum ≤ 8) (hd : decode (mC M) pc = .ok (.invokevirtual idx, 3)) (ha : a = a1 + a2) (hb : b = b1 + b2)
    (hct : Ct G Mc (.ref q :: as) w g (.inl r) z1 g1 a1 b1) (kk : J G M (pc + 3) L (r.toList ++ st) z1 g1 o z h a2 b2) : J G M pc L stk w g o z h a b := by
  subst hstk; subst ha; subst hb
  intro p e R s m args below meth c C H locs ls cells slots hR hlv ha hb
  have hts := C.2.2.2.2.2.2.2.1
  have hrecv : ∃ cell : Cell, H[adr G q]? = some cell ∧ cell.vm.isStatics = false ∧ s.vm.findClass (mY Mc).cls = some cell.cls := by
    obtain ⟨cell, h1, h2, h3, -⟩ := ((C.2.2.2.2.2.2.2.2.2.1.2.2.2.2.2.1 _ ht).1).kept hR.2.1.2.1
    exact ⟨cell, h1, h2, by rw [hcl]; exact h3⟩
  have hrun : vx_Run p (Gl G) e R s m args below meth c H locs cells slots a1 b1 (F0 m pc ls ((as.reverse ++ .ref q :: st).map (cv G))) (st.map (cv G)) (Qr G (.inl r) z1 g1 (Value.ref (adr G q) :: as.map (cv G)).toArray) (Xr G (.inl r) z1) (gA G) :=
    vx_runV (C := (mY Mc).cls) (b := adr G q) (As := as.map (cv G)) (fix_of C) hct ⟨Cal.B hc C hl hr hn, hts _ hi.1, hts _ hi.2⟩ ⟨Pq_blind, hrecv, fun U hU hW => Pq_of (as := .ref q :: as) C hR hU hW⟩ rfl (by simp) hlv.1 (by simp [List.map_append, List.map_reverse, cv]) (by show 2 * 0 + _ ≤ 8; rw [sum_c]; omega) hd ⟨by omega, by omega⟩
  refine core_ret hrun hR.2.1 fun H1 locs1 hR1 => ?_
  have q := kk p e R s m args below meth c C H1 locs1 ls (cells + a1) (slots + b1) hR1 hlv (by omega) (by omega)
  rw [stk_c, ← Nat.add_assoc, ← Nat.add_assoc]
  exact q
/-- the script -/
theorem J_sld {i : Int32} {j : Nat} (hi : i = nI j) (hj : j < Gn G) (hn : Gn G < 2 ^ 31) (hd : decode (mC M) pc = .ok (.iaload, 1)) (kk : J G M (pc + 1) L (.int (Gs G j) :: st) w g o z h a b) : J G M pc L (.int i :: .ref 1000 :: st) w g o z h a b :=
  fun p e R s m args below meth c C H locs ls cells slots hR hl ha hb => by
  obtain ⟨h1, h2⟩ := vp_inE hi hj hn
  obtain ⟨hX, hlt⟩ := C.2.2.2.2.2.2.2.2.2.1.2.2.2.2.2.2.2.1
  exact va_sld C.1 C.2.1 hX (by obtain ⟨scr, h, -⟩ := hX; exact (Array.getElem?_eq_some_iff.mp h).1) (fun q => absurd q (Nat.not_le.mpr hlt)) hR.2.1 h1 hd (by rw [h2]; exact kk p e R s m args below meth c C H locs ls cells slots hR hl ha hb)
theorem J_slen (hd : decode (mC M) pc = .ok (.arraylength, 1)) (kk : J G M (pc + 1) L (.int (nI (Gn G)) :: st) w g o z h a b) : J G M pc L (.ref 1000 :: st) w g o z h a b :=
  fun p e R s m args below meth c C H locs ls cells slots hR hl ha hb => by
  obtain ⟨⟨scr, h1, h2, h3, h4, h5⟩, hlt⟩ := C.2.2.2.2.2.2.2.2.2.1.2.2.2.2.2.2.2.1
  exact W.alen (n := nI (Gn G)) C.1 C.2.1 (by rw [hR.2.1.2.1 _ (Array.getElem?_eq_some_iff.mp h1).1 (fun q => absurd q (Nat.not_le.mpr hlt))]; exact h1) h2 (by rw [h4]; rfl) rfl rfl hd (kk p e R s m args below meth c C H locs ls cells slots hR hl ha hb)
/-- behind a caught throw: the exception lies on the stack, nobody asks which -/
def Jq (G : Gx) (M : Md) (pc : Nat) (w : Wd) (o : Ou) (z : Wd) (h : Bool) (a b : Nat) : Prop :=
  ∀ (p : Program) (e : Env) (R : Room) (s : State) (m : MethodId) (args : Array Value) (below : List Frame) (meth : Method) (c : Code), Cx G M p R s m args meth c →
  ∀ (H : Heap) (locs : List Loc) (ls : Array Slot) (cells slots q : Nat), Rl G s H locs w false → lv_has ls (mN M) [] → cells + a ≤ R.cells → slots + b ≤ R.slots →
  W p (Gl G) e R s m args below meth c H locs cells slots (vx_MQ below (Qr G o z h) (Xr G o z) args s (cells + a) (slots + b) (gA G)) (F0 m pc ls [.ref q])
theorem Jq_astore {i : Nat} (hn : i < mN M) (hd : decode (mC M) pc = .ok (.astore i, 2)) (kk : J G M (pc + 2) [] [] w false o z h a b) : Jq G M pc w o z h a b :=
  fun p e R s m args below meth c C H locs ls cells slots q hR hl ha hb => lv_astore C.1 C.2.1 hd hl hn rfl (fun ls' hl' => kk p e R s m args below meth c C H locs ls' cells slots hR ⟨hl'.1, hl'.2.1, fun _ h => by cases h⟩ ha hb)
theorem Jq_astore_n {k : Fin 4} {i : Nat} (hi : (k : Nat) = i) (hn : i < mN M) (hd : decode (mC M) pc = .ok (.astore_n k, 1)) (kk : J G M (pc + 1) [] [] w false o z h a b) : Jq G M pc w o z h a b :=
  fun p e R s m args below meth c C H locs ls cells slots q hR hl ha hb => lv_astore_n C.1 C.2.1 hd hi hl hn rfl (fun ls' hl' => kk p e R s m args below meth c C H locs ls' cells slots hR ⟨hl'.1, hl'.2.1, fun _ h => by cases h⟩ ha hb)
/-- a virtual call that throws, caught here -/
theorem J_callVc {as : List Value} {k ci idx : Nat} {sl : List (Option (Option Nat))} {E : String} (hc : Cal Mc) (hi : Cond.instanceMethod (mY Mc) ∈ gt ∧ Cond.selects (mY Mc).cls (mY Mc) (mY Mc) ∈ gt) (hl : Cond.methodLink (mY M).cls idx (mY Mc) ∈ gt) (hr : Rm M Mc) (hn : Cnt Mc as.length)
    (hs : w.1[k]? = some (.inl (ci, sl))) (hci : (vwCl[ci]?).map (fun q => q.1) = some (mY Mc).cls) (hstk : stk = as.reverse ++ .ref k :: st) (hsum : (st.map fun v => v.category).sum ≤ 8) (hd : decode (mC M) pc = .ok (.invokevirtual idx, 3))
    (pre : List ExceptionTableEntry) (x : ExceptionTableEntry) (suf : List ExceptionTableEntry) (hsp : tableOf (mT M) = pre ++ x :: suf) (hpass : ∀ y ∈ pre, y.catchType ≠ 0 ∧ ∃ nm, Cond.classLink (mY M).cls y.catchType nm ∈ gt ∧ (E, nm) ∈ ncastS) (hx : covers x pc = true) (h0 : x.catchType ≠ 0) (hlk : Cond.classLink (mY M).cls x.catchType E ∈ gt) (hcs : (E, E) ∈ castS)
    (hct : Ct G Mc (.ref k :: as) w g (.inr E) z1 g1 a1 b1) (ha1 : a = a1 + a2) (hb1 : b = b1 + b2) (kk : Jq G M x.handlerPc z1 o z h a2 b2) : J G M pc L stk w g o z h a b := by
  subst hstk; subst ha1; subst hb1
  intro p e R s m args below meth c C H locs ls cells slots hR hlv ha hb
  have hts := C.2.2.2.2.2.2.2.1
  have hE := C.2.2.2.2.2.2.2.2.2.1
  refine core_thr (runV_of (o := .inr E) C hR hlv.1 hc hi hl hr hn hs hci hsum hd hct ⟨by omega, by omega⟩) hR.2.1 fun H1 locs1 q ce hR1 hce hcv hcl => ?_
  refine vx_catch C.2.2.2.2.2.1 pre x suf (C.2.2.2.2.2.2.2.2.2.2.1.trans hsp) (fun y hy => ?_) hx h0 (hts _ hlk) (va_Nw.use rfl (hE.2.2.2.2.1.2.1 _ hcs)) hce hcv hcl ?_
  · obtain ⟨h1, nm, h2, h3⟩ := hpass y hy
    exact Or.inr ⟨h1, nm, hts _ h2, hE.2.2.2.2.1.2.2.1 _ h3⟩
  · have q := kk p e R s m args below meth c C H1 locs1 ls (cells + a1) (slots + b1) q hR1 ⟨hlv.1, hlv.2.1, fun _ h => by cases h⟩ (by omega) (by omega)
    rw [← Nat.add_assoc, ← Nat.add_assoc]
    exact q
end Strings
section Copy
variable {G : Gx} {M : Md} {pc : Nat} {L : List (Nat × Value)} {st : List Value} {o : Ou} {z : Wd} {g h : Bool} {a b : Nat} {sh : List Sh} {mm : Nat → Nat → Int32} {lm : Nat → Int64}
/-- the first N numbers of the row p into the row q -/
def mcpy (mm : Nat → Nat → Int32) (p q N : Nat) : Nat → Nat → Int32 := fun a b => if a = q then (if b < N then mm p b else mm q b) else mm a b
theorem J_copy {idx p q N n : Nat} {v : Int32} (hp : sh[p]? = some (.inr (.inl (0, n)))) (hq : sh[q]? = some (.inr (.inl (0, n)))) (hv : v = nI N) (hN : N ≤ n) (hn : n < 2 ^ 31) (hl : Cond.methodLink (mY M).cls idx arraycopyName ∈ gt) (hnat : Cond.native arraycopyName ∈ gt) (hst : Cond.static arraycopyName ∈ gt) (hini : Cond.initialized "java/lang/System" ∈ gt)
    (hsum : (st.map fun v => v.category).sum ≤ 8) (hF : 1 ≤ mF M) (hL : 8 + (nativeFrameWords "java/lang/System" "arraycopy" 5 + 11) ≤ mL M) (hd : decode (mC M) pc = .ok (.invokestatic idx, 3)) (kk : J G M (pc + 3) L st (sh, mcpy mm p q N, lm) false o z h a b) :
    J G M pc L (.int v :: .int 0 :: .ref q :: .int 0 :: .ref p :: st) (sh, mm, lm) g o z h a b := by
  intro p9 e R s m args below meth c C H locs ls cells slots hR hlv ha hb
  have hts := C.2.2.2.2.2.2.2.1
  have hF' := C.2.2.2.2.2.2.2.2.2.2.2.2.1
  have hL' := C.2.2.2.2.2.2.2.2.2.2.2.2.2.1
  have hD := cw_D (G := G) hR.2.2.1
  have hvn : v.toNatClampNeg = N := by rw [hv]; exact nI_clamp (by omega)
  have hv0 : ¬ v < 0 := by rw [hv]; exact nI_pos (by omega)
  refine va_copyi C.1 C.2.1 (C.2.2.2.2.1.trans hlv.1.symm) C.2.2.2.2.2.1 (hts _ hl) (hts _ hnat) (hts _ hst) (hts _ hini) C.2.2.2.2.2.2.2.2.1 hR.1 hD hR.2.1 p q 0 0 (c0 := Gt G 0) (c1 := Gt G 0) (n0 := n) (n1 := n) (f := mm p) (g := mm q) (ty := .int) (by rw [cw_at (w := (sh, mm, lm)) hp]; rfl) (by rw [cw_at (w := (sh, mm, lm)) hq]; rfl) rfl rfl rfl
    (sp := 0) (dp := 0) (n := v) (by decide) (by decide) hv0 (by rw [hvn]; simpa using hN) (by rw [hvn]; simpa using hN) (fun _ _ => rfl) (Nat.le_trans hF hF') (by rw [sum_c]; omega) hd fun H1 locs1 hP1 _ hS1 => ?_
  refine kk p9 e R s m args below meth c C H1 locs1 ls cells slots ⟨?_, hS1, hR.2.2.1, fun h => by cases h⟩ hlv ha hb
  rw [← cw_set (G := G) (w := (sh, mm, lm)) (w' := (sh, mcpy mm p q N, lm)) (x' := .inr (.inl (0, n))) hq (set_self hq).symm (fun a y h _ => by
    have e : mcpy mm p q N a = mm a := by funext b; simp [mcpy, h]
    rcases y with ⟨ci, sl⟩ | ⟨t, n'⟩ | ⟨t, n', f⟩ <;> simp [cc, e])]
  have e : cc G (sh, mcpy mm p q N, lm) q (.inr (.inl (0, n))) = .inl (Gt G 0, n, .inl (va_cpy (mm p) (mm q) (0 : Int32).toNatClampNeg (0 : Int32).toNatClampNeg v.toNatClampNeg)) := by
    have e2 : mcpy mm p q N q = va_cpy (mm p) (mm q) (0 : Int32).toNatClampNeg (0 : Int32).toNatClampNeg v.toNatClampNeg := by
      funext b
      rw [hvn]
      simp [mcpy, va_cpy]
    simp [cc, e2]
  rw [e]
  exact hP1
end Copy
theorem kw_len {q : Nat × Nat × List Int32} (h : q ∈ kwS) : q.2.2.length < 2 ^ 31 := by
  have h2 : kwS.all (fun q => decide (q.2.2.length < 10)) = true := by decide
  have h3 := of_decide_eq_true (List.all_eq_true.mp h2 q h)
  omega
