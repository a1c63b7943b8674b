/-! ===== a method's contract out of its run; ends; calls; throws ===== -/
theorem mW_nil {M : Md} (h : mT M = []) : mW M = .code (mY M) (mC M) (mN M) (mR M) := by simp [mW, h]
theorem ct_of_J {G : Gx} {M : Md} {as : List Value} {w : Wd} {g : Bool} {o : Ou} {z : Wd} {h : Bool} {a b : Nat} (hy : plainName (mY M).cls = true) (ht : mT M = []) (hn : (lg_sl as).length ≤ mN M)
    (k : J G M 0 (lv_args 0 as) [] w g o z h a b) : Ct G M as w g o z h a b := by
  refine vx_ofW (cc := mC M) (maxL := mN M) (ret := mR M) (ws' := gt) hy (by rw [mW_nil ht]) ?_
  intro p e s m args below meth c s₁ B hml htab hP
  obtain ⟨rfl, ⟨hW, hlen, hg⟩, hK, hE, hb⟩ := hP
  have hts := atoms_spec (ws := mW M :: gt) B.pre
  have C : Cx G M p ({ frames := mF M, cells := a, slots := b, locals := mL M } : Room) s m (as.map (cv G)).toArray meth c :=
    ⟨B.exec, B.bytes, B.returns, B.notSynchronized, hml, findClass_of_methodNamed B.named, (name_of_methodNamed B.named B.method).1, fun w hw => hts w (List.mem_cons_of_mem _ hw), hK, hE,
      by rw [ht]; exact List.eq_nil_iff_forall_not_mem.mpr htab, hb, Nat.le_refl _, Nat.le_refl _, hE.2.2.2.1⟩
  have hl := lv_entry (as.map (cv G)) (n := mN M) (by rw [lg_sl_len]; exact hn)
  rw [lvc_args] at hl
  rw [lg_entry_eq]
  have q := k p e _ s m _ below meth c C s.heap [] _ 0 0 ⟨hW, va_S.rf, hlen, hg⟩ hl (by simp) (by simp)
  simp only [Nat.zero_add] at q
  exact q
theorem ct_of_JH {G : Gx} {M : Md} {as : List Value} {w : Wd} {g : Bool} {o : Ou} {z : Wd} {h : Bool} {a b : Nat} {x : Nat × Nat × Nat × Nat} {t : List (Nat × Nat × Nat × Nat)} (hy : plainName (mY M).cls = true) (ht : mT M = x :: t) (hn : (lg_sl as).length ≤ mN M)
    (k : J G M 0 (lv_args 0 as) [] w g o z h a b) : Ct G M as w g o z h a b := by
  have hmw : mW M = .codeWith (mY M) (mC M) (mN M) (mR M) (mT M) := by simp [mW, ht]
  refine vx_ofWH (cc := mC M) (maxL := mN M) (ret := mR M) (ws' := gt) (hh := mT M) hy (by rw [hmw]) ?_
  intro p e s m args below meth c s₁ B hml hP
  obtain ⟨rfl, ⟨hW, hlen, hg⟩, hK, hE, hb⟩ := hP
  have hts := atoms_spec (ws := mW M :: gt) B.pre
  have htab := vx_table (x := mY M) B (hmw ▸ hts _ List.mem_cons_self)
  have C : Cx G M p ({ frames := mF M, cells := a, slots := b, locals := mL M } : Room) s m (as.map (cv G)).toArray meth c :=
    ⟨B.exec, B.bytes, B.returns, B.notSynchronized, hml, findClass_of_methodNamed B.named, (name_of_methodNamed B.named B.method).1, fun w hw => hts w (List.mem_cons_of_mem _ hw), hK, hE,
      htab, hb, Nat.le_refl _, Nat.le_refl _, hE.2.2.2.1⟩
  have hl := lv_entry (as.map (cv G)) (n := mN M) (by rw [lg_sl_len]; exact hn)
  rw [lvc_args] at hl
  rw [lg_entry_eq]
  have q := k p e _ s m _ below meth c C s.heap [] _ 0 0 ⟨hW, va_S.rf, hlen, hg⟩ hl (by simp) (by simp)
  simp only [Nat.zero_add] at q
  exact q
section Ends
variable {G : Gx} {M : Md} {pc : Nat} {L : List (Nat × Value)} {st : List Value} {w z : Wd} {g h : Bool} {o : Ou} {a b : Nat}
theorem Qr_end {s t : State} {args : Array Value} {H : Heap} {locs : List Loc} {v : Option Value} (hR : Rl G s H locs w g) (ht : t.heap = H) : Qr G (.inl v) w g args s (.returned (v.map (cv G))) t :=
  ⟨v, rfl, rfl, ⟨by rw [ht]; exact hR.1, hR.2.2.1, fun e => by rw [ht]; exact hR.2.2.2 e⟩, hR.2.1.F ht⟩
theorem J_iret {x : Int32} {ty : FieldType} (hr : mR M = some ty) (hn : narrow ty (.int x) = .int x) (hd : decode (mC M) pc = .ok (.ireturn, 1)) : J G M pc L [.int x] w g (.inl (some (.int x))) w g a b :=
  fun p e R s m args below meth c C H locs ls cells slots hR hl ha hb => W.widen (by omega) (by omega) (vx_ret (W.zret C.1 C.2.1 (C.2.2.1.trans hr) hn (fun t ht _ => Qr_end (v := some (.int x)) hR ht) hR.2.1.2.2 hd C.2.2.2.1))
theorem J_vret (hr : mR M = none) (hd : decode (mC M) pc = .ok (.return_, 1)) : J G M pc L [] w g (.inl none) w g a b :=
  fun p e R s m args below meth c C H locs ls cells slots hR hl ha hb => W.widen (by omega) (by omega) (vx_ret (W.vret C.1 C.2.1 (C.2.2.1.trans hr) (fun t ht _ => Qr_end (v := none) hR ht) hR.2.1.2.2 hd C.2.2.2.1))
/-- an end, said as an equation -/
theorem J_fini {x : Int32} {ty : FieldType} (hr : mR M = some ty) (hn : narrow ty (.int x) = .int x) (hd : decode (mC M) pc = .ok (.ireturn, 1)) (he : o = .inl (some (.int x)) ∧ z = w) : J G M pc L [.int x] w g o z g a b := by
  obtain ⟨rfl, rfl⟩ := he
  exact J_iret hr hn hd
theorem J_finv (hr : mR M = none) (hd : decode (mC M) pc = .ok (.return_, 1)) (he : o = .inl none ∧ z = w) : J G M pc L [] w g o z g a b := by
  obtain ⟨rfl, rfl⟩ := he
  exact J_vret hr hd
theorem Rl.weak {s : State} {H : Heap} {locs : List Loc} (hR : Rl G s H locs w g) : Rl G s H locs w false := ⟨hR.1, hR.2.1, hR.2.2.1, fun e => by cases e⟩
theorem J_weak (k : J G M pc L st w false o z h a b) : J G M pc L st w g o z h a b := fun p e R s m args below meth c C H locs ls cells slots hR hl ha hb => k p e R s m args below meth c C H locs ls cells slots hR.weak hl ha hb
end Ends
section Calls
variable {G : Gx} {M Mc : Md} {pc : Nat} {L : List (Nat × Value)} {st stk : List Value} {w z z1 : Wd} {g g1 h : Bool} {o : Ou} {a b a1 b1 a2 b2 : Nat}
/-- what any caller asks of a callee -/
def Cal (Mc : Md) : Prop := mT Mc = [] ∧ mW Mc ∈ gt ∧ Cond.initialized (mY Mc).cls ∈ gt ∧ ((mY Mc).cls ≠ "java/lang/invoke/MethodHandle" ∧ (mY Mc).cls ≠ "java/lang/invoke/VarHandle")
def Cnt (Mc : Md) (n : Nat) : Prop := (parseMethodDescriptor (mY Mc).desc).map (fun d => d.parameters.length) = some n
/-- the room of a callee in its caller's -/
def Rm (M Mc : Md) : Prop := mF Mc + 1 ≤ mF M ∧ 8 + (mN Mc + 11) + mL Mc ≤ mL M
theorem ws_ok (hc : mW Mc ∈ gt) : GoodIn gt (mW Mc :: gt) := fun w hw => by
  rcases List.mem_cons.mp hw with rfl | hw
  · exact gt_good _ hc
  · exact gt_good _ hw
theorem Cal.B {p : Program} {R : Room} {s : State} {m : MethodId} {args : Array Value} {meth : Method} {c : Code} {idx n : Nat} (hc : Cal Mc) (C : Cx G M p R s m args meth c) (hl : Cond.methodLink (mY M).cls idx (mY Mc) ∈ gt) (hr : Rm M Mc) (hn : Cnt Mc n) :
    CallB R s args (mY M).cls idx (mY Mc) (mC Mc) (mN Mc) (mR Mc) (mW Mc :: gt) { frames := mF Mc, cells := a1, slots := b1, locals := mL Mc } a1 b1 n := by
  obtain ⟨h1, h2, h3, h4⟩ := hc
  have hts := C.2.2.2.2.2.2.2.1
  have hF := C.2.2.2.2.2.2.2.2.2.2.2.2.1
  have hL := C.2.2.2.2.2.2.2.2.2.2.2.2.2.1
  have e : mW Mc = .code (mY Mc) (mC Mc) (mN Mc) (mR Mc) := mW_nil h1
  refine ⟨rfl, rfl, Nat.le_trans hr.1 hF, Nat.le_trans hr.2 hL, pay_in hts (ws_ok h2), by rw [← e]; exact List.mem_cons_self, by rw [← e]; exact hts _ h2, hts _ h3, h4, fun sig hs => ?_, hts _ hl⟩
  have q := hn
  unfold Cnt at q
  rw [hs] at q
  exact (Option.some.inj q).symm
theorem Wat_of {s U : State} {H : Heap} {locs : List Loc} (hR : Rl G s H locs w g) (hU : U.heap = H) : Wat G w g U := ⟨by rw [hU]; exact hR.1, hR.2.2.1, fun e => by rw [hU]; exact hR.2.2.2 e⟩
theorem Pq_of {p : Program} {R : Room} {s U : State} {m : MethodId} {args : Array Value} {meth : Method} {c : Code} {H : Heap} {locs : List Loc} {as : List Value} (C : Cx G M p R s m args meth c) (hR : Rl G s H locs w g) (hU : U.heap = H) (hW : s.WarmedH U.vm) : Pq G as w g (as.map (cv G)).toArray U :=
  ⟨rfl, Wat_of hR hU, va_K.moved hW.alike C.2.2.2.2.2.2.2.2.1, by rw [hU]; exact EX.warm hW (C.2.2.2.2.2.2.2.2.2.1.kept hR.2.1.2.1), by rw [hU]; exact Nat.le_trans C.2.2.2.2.2.2.2.2.2.2.2.1 hR.2.1.1⟩
/-- behind a call that returns -/
theorem core_ret {p : Program} {e : Env} {R : Room} {s : State} {m : MethodId} {args av : Array Value} {below : List Frame} {meth : Method} {c : Code} {H : Heap} {locs : List Loc} {cells slots : Nat} {Q : State → Prop} {ls : Array Slot} {st0 rest : List Value} {v : Option Value}
    (hrun : vx_Run p (Gl G) e R s m args below meth c H locs cells slots a1 b1 (F0 m pc ls st0) rest (Qr G (.inl v) z1 g1 av) (Xr G (.inl v) z1) (gA G)) (hS : va_S (gA G) s.heap H locs)
    (kk : ∀ (H1 : Heap) (locs1 : List Loc), Rl G s H1 locs1 z1 g1 → W p (Gl G) e R s m args below meth c H1 locs1 (cells + a1) (slots + b1) Q (F0 m (pc + 3) ls ((v.map (cv G)).toList ++ rest))) : W p (Gl G) e R s m args below meth c H locs cells slots Q (F0 m pc ls st0) := by
  intro T hT X
  rcases hrun T hT X with ⟨r, st₀, t, T', Lo, h0, X', hL, e1, e2, ⟨v', hv, hr, ⟨q1, q2, q3⟩, hF⟩, stp⟩ | ⟨q, st₀, t, T', Lo, E, ce, h0, X', hL, e1, e2, ⟨hx, -⟩, -⟩
  · cases hv
    cases hr
    obtain ⟨-, -, k3⟩ := vx_keep h0 e1 hS (fun _ _ q => q) (fun _ q => q) hL hF
    obtain ⟨t2, a1, b1⟩ := kk T'.heap (locs ++ Lo) ⟨by rw [e1]; exact q1, k3, q2, fun hh => by rw [e1]; exact q3 hh⟩ T' rfl X'
    exact ⟨t2, stp t2 a1, b1⟩
  · cases hx
/-- behind a call that throws -/
theorem core_thr {p : Program} {e : Env} {R : Room} {s : State} {m : MethodId} {args av : Array Value} {below : List Frame} {meth : Method} {c : Code} {H : Heap} {locs : List Loc} {cells slots : Nat} {Q : State → Prop} {ls : Array Slot} {st0 rest : List Value} {E : String}
    (hrun : vx_Run p (Gl G) e R s m args below meth c H locs cells slots a1 b1 (F0 m pc ls st0) rest (Qr G (.inr E) z1 g1 av) (Xr G (.inr E) z1) (gA G)) (hS : va_S (gA G) s.heap H locs)
    (kk : ∀ (H1 : Heap) (locs1 : List Loc) (q : Addr) (ce : Cell), Rl G s H1 locs1 z1 false → H1[q]? = some ce → ce.vm = .none → s.vm.findClass E = some ce.cls → vx_W p (Gl G) e R s m args below meth c H1 locs1 (cells + a1) (slots + b1) Q (F0 m pc ls rest) q) : W p (Gl G) e R s m args below meth c H locs cells slots Q (F0 m pc ls st0) := by
  intro T hT X
  rcases hrun T hT X with ⟨r, st₀, t, T', Lo, h0, X', hL, e1, e2, ⟨v', hv, -⟩, stp⟩ | ⟨q, st₀, t, T', Lo, E', ce, h0, X', hL, e1, e2, ⟨hx, ⟨q1, q2, q3⟩, hF⟩, hce, hcv, hcl, stp⟩
  · cases hv
  · cases hx
    obtain ⟨-, -, k3⟩ := vx_keep h0 e1 hS (fun _ _ q => q) (fun _ q => q) hL hF
    obtain ⟨t2, a1, b1⟩ := kk T'.heap (locs ++ Lo) q ce ⟨by rw [e1]; exact q1, k3, q2, fun hh => by cases hh⟩ (by rw [e1]; exact hce) hcv hcl T' rfl X'
    exact ⟨t2, stp.trans a1, b1⟩
theorem fix_of {p : Program} {R : Room} {s : State} {m : MethodId} {args : Array Value} {meth : Method} {c : Code} (C : Cx G M p R s m args meth c) : CallFix p m c (mC M) (mN M) s args gt (mY M).cls :=
  ⟨C.1, C.2.1, C.2.2.2.2.1, C.2.2.2.2.2.1, C.2.2.2.2.2.2.2.1⟩
theorem sum_c {st : List Value} : ((st.map (cv G)).map fun v => v.category).sum = (st.map fun v => v.category).sum := by
  rw [List.map_map]
  congr 1
  exact List.map_congr_left fun v _ => cv_cat G v
/-- the run of a call of an instance method -/
theorem runV_of {p : Program} {e : Env} {R : Room} {s : State} {m : MethodId} {args : Array Value} {below : List Frame} {meth : Method} {c : Code} {H : Heap} {locs : List Loc} {cells slots : Nat} {ls : Array Slot} {as : List Value} {k ci idx : Nat} {sl : List (Option (Option Nat))}
    (C : Cx G M p R s m args meth c) (hR : Rl G s H locs w g) (hlv : ls.size = mN M) (hc : Cal Mc) (hi : Cond.instanceMethod (mY Mc) ∈ gt ∧ Cond.selects (mY Mc).cls (mY Mc) (mY Mc) ∈ gt) (hl : Cond.methodLink (mY M).cls idx (mY Mc) ∈ gt) (hr : Rm M Mc) (hn : Cnt Mc as.length)
    (hs : w.1[k]? = some (.inl (ci, sl))) (hci : (vwCl[ci]?).map (fun q => q.1) = some (mY Mc).cls) (hsum : (st.map fun v => v.category).sum ≤ 8) (hd : decode (mC M) pc = .ok (.invokevirtual idx, 3)) (hct : Ct G Mc (.ref k :: as) w g o z1 g1 a1 b1) (hf : cells + a1 ≤ R.cells ∧ slots + b1 ≤ R.slots) :
    vx_Run p (Gl G) e R s m args below meth c H locs cells slots a1 b1 (F0 m pc ls ((as.reverse ++ .ref k :: st).map (cv G))) (st.map (cv G)) (Qr G o z1 g1 (Value.ref (adr G k) :: as.map (cv G)).toArray) (Xr G o z1) (gA G) := by
  have hts := C.2.2.2.2.2.2.2.1
  obtain ⟨q, hq, he⟩ : ∃ q, vwCl[ci]? = some q ∧ q.1 = (mY Mc).cls := by
    cases hx : vwCl[ci]? with
    | none => rw [hx] at hci; cases hci
    | some q => rw [hx] at hci; exact ⟨q, rfl, Option.some.inj hci⟩
  have hrecv := va_recv C.2.2.2.2.2.2.2.2.1 hR.1 hq (q0 := k) (cw_at hs)
  rw [he] at hrecv
  exact vx_runV (C := (mY Mc).cls) (b := adr G k) (As := as.map (cv G)) (fix_of C) hct ⟨Cal.B hc C hl hr hn, hts _ hi.1, hts _ hi.2⟩ ⟨Pq_blind, hrecv, fun U hU hW => Pq_of (as := .ref k :: as) C hR hU hW⟩ rfl (by simp) hlv (by simp [List.map_append, List.map_reverse, cv]) (by show 2 * 0 + _ ≤ 8; rw [sum_c]; omega) hd hf
theorem runS_of {p : Program} {e : Env} {R : Room} {s : State} {m : MethodId} {args : Array Value} {below : List Frame} {meth : Method} {c : Code} {H : Heap} {locs : List Loc} {cells slots : Nat} {ls : Array Slot} {as : List Value} {idx : Nat}
    (C : Cx G M p R s m args meth c) (hR : Rl G s H locs w g) (hlv : ls.size = mN M) (hc : Cal Mc) (hi : Cond.static (mY Mc) ∈ gt) (hl : Cond.methodLink (mY M).cls idx (mY Mc) ∈ gt) (hr : Rm M Mc) (hn : Cnt Mc as.length)
    (hsum : (st.map fun v => v.category).sum ≤ 8) (hd : decode (mC M) pc = .ok (.invokestatic idx, 3)) (hct : Ct G Mc as w g o z1 g1 a1 b1) (hf : cells + a1 ≤ R.cells ∧ slots + b1 ≤ R.slots) :
    vx_Run p (Gl G) e R s m args below meth c H locs cells slots a1 b1 (F0 m pc ls ((as.reverse ++ st).map (cv G))) (st.map (cv G)) (Qr G o z1 g1 (as.map (cv G)).toArray) (Xr G o z1) (gA G) := by
  have hts := C.2.2.2.2.2.2.2.1
  exact vx_runS (As := as.map (cv G)) (fix_of C) hct ⟨Cal.B hc C hl hr hn, hts _ hi⟩ ⟨Pq_blind, fun U hU hW => Pq_of (as := as) C hR hU hW⟩ rfl (by simp) hlv (by simp [List.map_append, List.map_reverse]) (by show 2 * 0 + _ ≤ 8; rw [sum_c]; omega) hd hf
theorem runI_of {p : Program} {e : Env} {R : Room} {s : State} {m : MethodId} {args : Array Value} {below : List Frame} {meth : Method} {c : Code} {H : Heap} {locs : List Loc} {cells slots : Nat} {ls : Array Slot} {as : List Value} {k idx : Nat}
    (C : Cx G M p R s m args meth c) (hR : Rl G s H locs w g) (hlv : ls.size = mN M) (hc : Cal Mc) (hi : Cond.instanceMethod (mY Mc) ∈ gt) (hy : (mY Mc).name = "<init>") (hv : mR Mc = none) (hl : Cond.methodLink (mY M).cls idx (mY Mc) ∈ gt) (hr : Rm M Mc) (hn : Cnt Mc as.length)
    (hsum : (st.map fun v => v.category).sum ≤ 8) (hd : decode (mC M) pc = .ok (.invokespecial idx, 3)) (hct : Ct G Mc (.ref k :: as) w g o z1 g1 a1 b1) (hf : cells + a1 ≤ R.cells ∧ slots + b1 ≤ R.slots) :
    vx_Run p (Gl G) e R s m args below meth c H locs cells slots a1 b1 (F0 m pc ls ((as.reverse ++ .ref k :: st).map (cv G))) (st.map (cv G)) (Qr G o z1 g1 (Value.ref (adr G k) :: as.map (cv G)).toArray) (Xr G o z1) (gA G) := by
  have hts := C.2.2.2.2.2.2.2.1
  have hB : CallB R s args (mY M).cls idx (mY Mc) (mC Mc) (mN Mc) (mR Mc) (mW Mc :: gt) { frames := mF Mc, cells := a1, slots := b1, locals := mL Mc } a1 b1 as.length := Cal.B hc C hl hr hn
  rw [hv] at hB
  exact vx_runI (b := adr G k) (As := as.map (cv G)) (fix_of C) hct ⟨by rw [List.length_map]; exact hB, hy, hts _ hi⟩ ⟨Pq_blind, fun U hU hW => Pq_of (as := .ref k :: as) C hR hU hW⟩ rfl rfl hlv (by simp [List.map_append, List.map_reverse, cv]) (by show 2 * 0 + _ ≤ 8; rw [sum_c]; omega) hd hf
end Calls
section CallRules
variable {G : Gx} {M Mc : Md} {pc : Nat} {L : List (Nat × Value)} {st stk : List Value} {w z z1 : Wd} {g g1 h : Bool} {o : Ou} {a b a1 b1 a2 b2 : Nat}
theorem stk_c {v : Option Value} {st : List Value} : (v.map (cv G)).toList ++ st.map (cv G) = (v.toList ++ st).map (cv G) := by cases v <;> rfl
/-- a virtual call that returns -/
theorem J_callV {as : List Value} {k ci idx : Nat} {sl : List (Option (Option Nat))} {v : Option Value} (hc : Cal Mc) (hi : Cond.instanceMethod (mY Mc) ∈ gt ∧ Cond.selects (mY Mc).cls (mY Mc) (mY Mc) ∈ gt) (hl : Cond.methodLink (mY M).cls idx (mY Mc) ∈ gt) (hr : Rm M Mc) (hn : Cnt Mc as.length)
    (hs : w.1[k]? = some (.inl (ci, sl))) (hci : (vwCl[ci]?).map (fun q => q.1) = some (mY Mc).cls) (hstk : stk = as.reverse ++ .ref k :: st) (hsum : (st.map fun v => v.category).sum ≤ 8) (hd : decode (mC M) pc = .ok (.invokevirtual idx, 3)) (ha : a = a1 + a2) (hb : b = b1 + b2)
    (hct : Ct G Mc (.ref k :: as) w g (.inl v) z1 g1 a1 b1) (kk : J G M (pc + 3) L (v.toList ++ st) z1 g1 o z h a2 b2) : J G M pc L stk w g o z h a b := by
  subst hstk; subst ha; subst hb
  intro p e R s m args below meth c C H locs ls cells slots hR hlv ha hb
  refine core_ret (runV_of (o := .inl v) C hR hlv.1 hc hi hl hr hn hs hci hsum hd hct ⟨by omega, by omega⟩) hR.2.1 fun H1 locs1 hR1 => ?_
  have q := kk p e R s m args below meth c C H1 locs1 ls (cells + a1) (slots + b1) hR1 hlv (by omega) (by omega)
  rw [stk_c, ← Nat.add_assoc, ← Nat.add_assoc]
  exact q
/-- a virtual call that throws, no handler here -/
theorem J_callVx {as : List Value} {k ci idx : Nat} {sl : List (Option (Option Nat))} {E : String} (ht : mT M = []) (hc : Cal Mc) (hi : Cond.instanceMethod (mY Mc) ∈ gt ∧ Cond.selects (mY Mc).cls (mY Mc) (mY Mc) ∈ gt) (hl : Cond.methodLink (mY M).cls idx (mY Mc) ∈ gt) (hr : Rm M Mc) (hn : Cnt Mc as.length)
    (hs : w.1[k]? = some (.inl (ci, sl))) (hci : (vwCl[ci]?).map (fun q => q.1) = some (mY Mc).cls) (hstk : stk = as.reverse ++ .ref k :: st) (hsum : (st.map fun v => v.category).sum ≤ 8) (hd : decode (mC M) pc = .ok (.invokevirtual idx, 3))
    (hct : Ct G Mc (.ref k :: as) w g (.inr E) z g1 a1 b1) (ha1 : a1 ≤ a) (hb1 : b1 ≤ b) : J G M pc L stk w g (.inr E) z h a b := by
  subst hstk
  intro p e R s m args below meth c C H locs ls cells slots hR hlv ha hb
  refine core_thr (runV_of (o := .inr E) C hR hlv.1 hc hi hl hr hn hs hci hsum hd hct ⟨by omega, by omega⟩) hR.2.1 fun H1 locs1 q ce hR1 hce hcv hcl => ?_
  refine vx_out (fun x hx => ?_) C.2.2.2.1 hce hcv hcl (fun t ht hvm => ⟨rfl, ⟨by rw [ht]; exact hR1.1, hR1.2.2.1, fun e => by cases e⟩, hR1.2.1.F ht⟩) hR1.2.1.2.2 (by omega) (by omega)
  rw [C.2.2.2.2.2.2.2.2.2.2.1, ht] at hx
  cases hx
theorem J_callS {as : List Value} {idx : Nat} {v : Option Value} (hc : Cal Mc) (hi : Cond.static (mY Mc) ∈ gt) (hl : Cond.methodLink (mY M).cls idx (mY Mc) ∈ gt) (hr : Rm M Mc) (hn : Cnt Mc as.length)
    (hstk : stk = as.reverse ++ st) (hsum : (st.map fun v => v.category).sum ≤ 8) (hd : decode (mC M) pc = .ok (.invokestatic idx, 3)) (ha : a = a1 + a2) (hb : b = b1 + b2)
    (hct : Ct G Mc as w g (.inl v) z1 g1 a1 b1) (kk : J G M (pc + 3) L (v.toList ++ st) z1 g1 o z h a2 b2) : J G M pc L stk w g o z h a b := by
  subst hstk; subst ha; subst hb
  intro p e R s m args below meth c C H locs ls cells slots hR hlv ha hb
  refine core_ret (runS_of (o := .inl v) C hR hlv.1 hc hi hl hr hn hsum hd hct ⟨by omega, by omega⟩) hR.2.1 fun H1 locs1 hR1 => ?_
  have q := kk p e R s m args below meth c C H1 locs1 ls (cells + a1) (slots + b1) hR1 hlv (by omega) (by omega)
  rw [stk_c, ← Nat.add_assoc, ← Nat.add_assoc]
  exact q
theorem J_callSx {as : List Value} {idx : Nat} {E : String} (ht : mT M = []) (hc : Cal Mc) (hi : Cond.static (mY Mc) ∈ gt) (hl : Cond.methodLink (mY M).cls idx (mY Mc) ∈ gt) (hr : Rm M Mc) (hn : Cnt Mc as.length)
    (hstk : stk = as.reverse ++ st) (hsum : (st.map fun v => v.category).sum ≤ 8) (hd : decode (mC M) pc = .ok (.invokestatic idx, 3))
    (hct : Ct G Mc as w g (.inr E) z g1 a1 b1) (ha1 : a1 ≤ a) (hb1 : b1 ≤ b) : J G M pc L stk w g (.inr E) z h a b := by
  subst hstk
  intro p e R s m args below meth c C H locs ls cells slots hR hlv ha hb
  refine core_thr (runS_of (o := .inr E) C hR hlv.1 hc hi hl hr hn hsum hd hct ⟨by omega, by omega⟩) hR.2.1 fun H1 locs1 q ce hR1 hce hcv hcl => ?_
  refine vx_out (fun x hx => ?_) C.2.2.2.1 hce hcv hcl (fun t ht hvm => ⟨rfl, ⟨by rw [ht]; exact hR1.1, hR1.2.2.1, fun e => by cases e⟩, hR1.2.1.F ht⟩) hR1.2.1.2.2 (by omega) (by omega)
  rw [C.2.2.2.2.2.2.2.2.2.2.1, ht] at hx
  cases hx
/-- a constructor's call -/
theorem J_callI {as : List Value} {k idx : Nat} (hc : Cal Mc) (hi : Cond.instanceMethod (mY Mc) ∈ gt) (hy : (mY Mc).name = "<init>") (hv : mR Mc = none) (hl : Cond.methodLink (mY M).cls idx (mY Mc) ∈ gt) (hr : Rm M Mc) (hn : Cnt Mc as.length)
    (hstk : stk = as.reverse ++ .ref k :: st) (hsum : (st.map fun v => v.category).sum ≤ 8) (hd : decode (mC M) pc = .ok (.invokespecial idx, 3)) (ha : a = a1 + a2) (hb : b = b1 + b2)
    (hct : Ct G Mc (.ref k :: as) w g (.inl none) z1 g1 a1 b1) (kk : J G M (pc + 3) L st z1 g1 o z h a2 b2) : J G M pc L stk w g o z h a b := by
  subst hstk; subst ha; subst hb
  intro p e R s m args below meth c C H locs ls cells slots hR hlv ha hb
  refine core_ret (runI_of (o := .inl none) C hR hlv.1 hc hi hy hv hl hr hn hsum hd hct ⟨by omega, by omega⟩) hR.2.1 fun H1 locs1 hR1 => ?_
  have q := kk p e R s m args below meth c C H1 locs1 ls (cells + a1) (slots + b1) hR1 hlv (by omega) (by omega)
  rw [← Nat.add_assoc, ← Nat.add_assoc]
  exact q
/-- Object.<init> -/
theorem J_objInit {k idx : Nat} (hl : Cond.methodLink (mY M).cls idx Lib.objectInit ∈ gt) (hi : Cond.instanceMethod Lib.objectInit ∈ gt) (hcode : Cond.code Lib.objectInit ⟨#[0xb1]⟩ 1 none ∈ gt) (hsum : (st.map fun v => v.category).sum ≤ 8) (hF : 1 ≤ mF M) (hL : 20 ≤ mL M) (hd : decode (mC M) pc = .ok (.invokespecial idx, 3))
    (kk : J G M (pc + 3) L st w g o z h a b) : J G M pc L (.ref k :: st) w g o z h a b := by
  intro p e R s m args below meth c C H locs ls cells slots hR hlv ha hb
  have hts := C.2.2.2.2.2.2.2.1
  have hF' := C.2.2.2.2.2.2.2.2.2.2.2.2.1
  have hL' := C.2.2.2.2.2.2.2.2.2.2.2.2.2.1
  exact W.objInit C.1 C.2.1 C.2.2.2.2.2.1 (hts _ hl) (hts _ hi) (hts _ hcode) rfl (hlv.1.trans C.2.2.2.2.1.symm) rfl hd (Nat.le_trans hF hF') (by show 2 * 0 + _ + 12 ≤ _; rw [sum_c]; omega) (kk p e R s m args below meth c C H locs ls cells slots hR hlv ha hb)
/-- new X(text), thrown: the class knows no more of it than its name -/
theorem J_throwS {ik is ic : Nat} {cls text : String} {q : Nat} {names : List String} (ht : mT M = []) (hcls : Bundle.fit cls = true) (hnames : ∀ n ∈ names, Bundle.fit n = true) (hk : Cond.classLink (mY M).cls ik cls ∈ gt) (hini : Cond.initialized cls ∈ gt) (hstr : ((mY M).cls, is, text, q) ∈ strS) (hat : ∀ w ∈ (vx_atS (mY M).cls ic cls names).filter goodWord, w ∈ gt)
    (hat2 : ∀ w ∈ (vx_atS (mY M).cls ic cls names).filter (fun w => !goodWord w), w ∈ (Cond.castable cls cls :: declS.map Cond.declares)) (hcs : (cls, cls) ∈ castS)
    (hsum : (st.map fun v => v.category).sum ≤ 8) (hF : names.length + 3 < mF M) (hL : 8 + (13 * (names.length + 1) + 43) ≤ mL M)
    (ha1 : 1 ≤ a) (hb1 : 6 ≤ b) (d0 : decode (mC M) pc = .ok (.new ik, 3)) (d3 : decode (mC M) (pc + 3) = .ok (.dup, 1)) (d4 : decode (mC M) (pc + 4) = .ok (.ldc is, 2)) (d6 : decode (mC M) (pc + 6) = .ok (.invokespecial ic, 3)) (d9 : decode (mC M) (pc + 9) = .ok (.athrow, 1)) :
    J G M pc L st w g (.inr cls) w h a b := by
  intro p e R s m args below meth c C H locs ls cells slots hR hlv ha hb
  have hts := C.2.2.2.2.2.2.2.1
  have hF' := C.2.2.2.2.2.2.2.2.2.2.2.2.1
  have hL' := C.2.2.2.2.2.2.2.2.2.2.2.2.2.1
  have hE := C.2.2.2.2.2.2.2.2.2.1
  have hgood : ∀ w ∈ vx_atS (mY M).cls ic cls names, goodWord w = true ∨ w ∈ (Cond.castable cls cls :: declS.map Cond.declares) := fun w hw => by
    cases hg : goodWord w with
    | true => exact Or.inl rfl
    | false => exact Or.inr (hat2 w (List.mem_filter.mpr ⟨hw, by simp [hg]⟩))
  have hall : ∀ w ∈ vx_atS (mY M).cls ic cls names, w.before args s = true := fun w hw => by
    rcases hgood w hw with q | q
    · exact hts _ (hat w (List.mem_filter.mpr ⟨hw, q⟩))
    · rcases List.mem_cons.mp q with rfl | q
      · exact va_Nw.use rfl (hE.2.2.2.2.1.2.1 _ hcs)
      · obtain ⟨y, hy, rfl⟩ := List.mem_map.mp q
        exact va_Nw.use rfl (hE.2.2.2.2.1.1 _ hy)
  exact vx_throwS C.1 C.2.1 hE.2.2.2.1 C.2.2.2.2.2.1 hcls hnames (hts _ hk) (hts _ hini) (hE.2.1 _ hstr) hall
    (fun w hw => by
      rcases List.mem_cons.mp hw with rfl | hw
      · simp [vx_ot, (List.mem_filter.mp hk).2]
      · rcases List.mem_cons.mp hw with rfl | hw
        · simp [vx_ot, (List.mem_filter.mp hini).2]
        · rcases hgood w hw with q | q
          · simp [vx_ot, q]
          · rcases List.mem_cons.mp q with rfl | q
            · rfl
            · obtain ⟨y, hy, rfl⟩ := List.mem_map.mp q
              rfl)
    hE.2.2.1.1 hE.2.2.1.2 hR.2.1 (hlv.1.trans C.2.2.2.2.1.symm) d0 d3 d4 d6 d9 (fun x hx => by rw [C.2.2.2.2.2.2.2.2.2.2.1, ht] at hx; cases hx) (by omega) (by rw [sum_c]; omega) (by omega) (by omega) C.2.2.2.1
    (fun t hvm hsz hkp => ⟨rfl, ⟨hR.1.kept (fun k q hq => hkp q.1 (hR.1 k q hq).lt), hR.2.2.1, fun e => by cases e⟩, ⟨Nat.le_trans hR.2.1.1 hsz, fun q h1 h2 => by rw [hkp q (Nat.lt_of_lt_of_le h1 hR.2.1.1)]; exact hR.2.1.2.1 q h1 h2⟩⟩)
    hR.2.1.2.2 (by omega) (by omega)
/-- the same, the text by a wide entry -/
theorem J_throwSW {ik is ic : Nat} {cls text : String} {q : Nat} {names : List String} (ht : mT M = []) (hcls : Bundle.fit cls = true) (hnames : ∀ n ∈ names, Bundle.fit n = true) (hk : Cond.classLink (mY M).cls ik cls ∈ gt) (hini : Cond.initialized cls ∈ gt) (hstr : ((mY M).cls, is, text, q) ∈ strS) (hat : ∀ w ∈ (vx_atS (mY M).cls ic cls names).filter goodWord, w ∈ gt)
    (hat2 : ∀ w ∈ (vx_atS (mY M).cls ic cls names).filter (fun w => !goodWord w), w ∈ (Cond.castable cls cls :: declS.map Cond.declares)) (hcs : (cls, cls) ∈ castS)
    (hsum : (st.map fun v => v.category).sum ≤ 8) (hF : names.length + 3 < mF M) (hL : 8 + (13 * (names.length + 1) + 43) ≤ mL M)
    (ha1 : 1 ≤ a) (hb1 : 6 ≤ b) (d0 : decode (mC M) pc = .ok (.new ik, 3)) (d3 : decode (mC M) (pc + 3) = .ok (.dup, 1)) (d4 : decode (mC M) (pc + 4) = .ok (.ldc_w is, 3)) (d6 : decode (mC M) (pc + 7) = .ok (.invokespecial ic, 3)) (d9 : decode (mC M) (pc + 10) = .ok (.athrow, 1)) :
    J G M pc L st w g (.inr cls) w h a b := by
  intro p e R s m args below meth c C H locs ls cells slots hR hlv ha hb
  have hts := C.2.2.2.2.2.2.2.1
  have hF' := C.2.2.2.2.2.2.2.2.2.2.2.2.1
  have hL' := C.2.2.2.2.2.2.2.2.2.2.2.2.2.1
  have hE := C.2.2.2.2.2.2.2.2.2.1
  have hgood : ∀ w ∈ vx_atS (mY M).cls ic cls names, goodWord w = true ∨ w ∈ (Cond.castable cls cls :: declS.map Cond.declares) := fun w hw => by
    cases hg : goodWord w with
    | true => exact Or.inl rfl
    | false => exact Or.inr (hat2 w (List.mem_filter.mpr ⟨hw, by simp [hg]⟩))
  have hall : ∀ w ∈ vx_atS (mY M).cls ic cls names, w.before args s = true := fun w hw => by
    rcases hgood w hw with q | q
    · exact hts _ (hat w (List.mem_filter.mpr ⟨hw, q⟩))
    · rcases List.mem_cons.mp q with rfl | q
      · exact va_Nw.use rfl (hE.2.2.2.2.1.2.1 _ hcs)
      · obtain ⟨y, hy, rfl⟩ := List.mem_map.mp q
        exact va_Nw.use rfl (hE.2.2.2.2.1.1 _ hy)
  exact vx_throwSW C.1 C.2.1 hE.2.2.2.1 C.2.2.2.2.2.1 hcls hnames (hts _ hk) (hts _ hini) (hE.2.1 _ hstr) hall
    (fun w hw => by
      rcases List.mem_cons.mp hw with rfl | hw
      · simp [vx_ot, (List.mem_filter.mp hk).2]
      · rcases List.mem_cons.mp hw with rfl | hw
        · simp [vx_ot, (List.mem_filter.mp hini).2]
        · rcases hgood w hw with q | q
          · simp [vx_ot, q]
          · rcases List.mem_cons.mp q with rfl | q
            · rfl
            · obtain ⟨y, hy, rfl⟩ := List.mem_map.mp q
              rfl)
    hE.2.2.1.1 hE.2.2.1.2 hR.2.1 (hlv.1.trans C.2.2.2.2.1.symm) d0 d3 d4 d6 d9 (fun x hx => by rw [C.2.2.2.2.2.2.2.2.2.2.1, ht] at hx; cases hx) (by omega) (by rw [sum_c]; omega) (by omega) (by omega) C.2.2.2.1
    (fun t hvm hsz hkp => ⟨rfl, ⟨hR.1.kept (fun k q hq => hkp q.1 (hR.1 k q hq).lt), hR.2.2.1, fun e => by cases e⟩, ⟨Nat.le_trans hR.2.1.1 hsz, fun q h1 h2 => by rw [hkp q (Nat.lt_of_lt_of_le h1 hR.2.1.1)]; exact hR.2.1.2.1 q h1 h2⟩⟩)
    hR.2.1.2.2 (by omega) (by omega)
end CallRules
section Loc
variable {G : Gx} {M : Md} {pc : Nat} {L L' : List (Nat × Value)} {st : List Value} {w z : Wd} {g h : Bool} {o : Ou} {a b : Nat}
/-- fewer locals, by their places -/
theorem J_sub (ks : List Nat) (hl : lv_pick L ks = L') (k : J G M pc L' st w g o z h a b) : J G M pc L st w g o z h a b := by
  intro p e R s m args below meth c C H locs ls cells slots hR hlv ha hb
  refine k p e R s m args below meth c C H locs ls cells slots hR (lv_sub hlv ks ?_) ha hb
  rw [← hl]
  simp only [lv_pick, lvc, List.map_filterMap]
  congr 1
  funext i
  simp [List.getElem?_map]
theorem J_look2 {dflt : Int} {ps : Array (Int × Int)} {len t1 t2 t3 : Nat} {x : Int32} {f1 f2 : Int} (hd : decode (mC M) pc = .ok (.lookupswitch dflt ps, len)) (hp : ps = #[(1, f1), (2, f2)]) (e1 : (pc : Int) + f1 = (t1 : Int)) (e2 : (pc : Int) + f2 = (t2 : Int)) (e3 : (pc : Int) + dflt = (t3 : Int))
    (k1 : x = 1 → J G M t1 L st w g o z h a b) (k2 : x = 2 → J G M t2 L st w g o z h a b) (k3 : ¬ x = 1 → ¬ x = 2 → J G M t3 L st w g o z h a b) : J G M pc L (.int x :: st) w g o z h a b := by
  subst hp
  have key : ∀ k : Int, x.toInt = k → x = Int32.ofInt k := fun k h => by rw [← h]; exact (Int32.ofInt_toInt x).symm
  by_cases c1 : x.toInt = 1
  · exact J_look (off := f1) hd rfl (by rw [c1]; rfl) e1 (k1 (key 1 c1))
  by_cases c2 : x.toInt = 2
  · exact J_look (off := f2) hd rfl (by rw [c2]; rfl) e2 (k2 (key 2 c2))
  · refine J_look (off := dflt) hd rfl ?_ e3 (k3 (fun q => c1 (by rw [q]; rfl)) (fun q => c2 (by rw [q]; rfl)))
    simp only [Op.lookupswitch.offset]
    simp [c1, c2, Ne.symm c1, Ne.symm c2]
end Loc
