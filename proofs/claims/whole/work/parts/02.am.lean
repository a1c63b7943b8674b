/-! ===== the packaged judgement: values, shapes and worlds by places; a method's run as one word J; a method's contract Ct ===== -/
abbrev Gx : Type := Launch × va_G × (Nat → ClassId) × Nat × (Nat → Nat) × Nat × (Nat → Int32)
abbrev Gl (G : Gx) : Launch := G.1
abbrev Gd (G : Gx) : va_G := G.2.1
abbrev Gt (G : Gx) : Nat → ClassId := G.2.2.1
abbrev Gb (G : Gx) : Nat := G.2.2.2.1
abbrev Ge (G : Gx) : Nat → Nat := G.2.2.2.2.1
/-- the script: its length, its ints -/
abbrev Gn (G : Gx) : Nat := G.2.2.2.2.2.1
abbrev Gs (G : Gx) : Nat → Int32 := G.2.2.2.2.2.2
/-- the address of place k: below 1000 a cell of the world, in the order of making; from 1000 on a thing that was there before -/
def adr (G : Gx) (k : Nat) : Nat := if k < 1000 then Gb G + k else Ge G k
def cv (G : Gx) : Value → Value
  | .ref k => .ref (adr G k)
  | .int x => .int x
  | .long x => .long x
  | .float x => .float x
  | .double x => .double x
  | .null => .null
  | v => v
theorem cv_cat (G : Gx) (v : Value) : (cv G v).category = v.category := by cases v <;> rfl
/-- a shape: an object (class, slots: an int, or what reference stands there), a row of numbers (kind, length), a row of references -/
abbrev Sh : Type := (Nat × List (Option (Option Nat))) ⊕ ((Nat × Nat) ⊕ (Nat × Nat × (Nat → Option Nat)))
abbrev Wd : Type := List Sh × (Nat → Nat → Int32) × (Nat → Int64)
def rfv (G : Gx) (o : Option Nat) : Value := match o with
  | none => .null
  | some k => .ref (adr G k)
def fv (G : Gx) (m : Nat → Int32) (j : Nat) (o : Option (Option Nat)) : Value := match o with
  | none => .int (m j)
  | some r => rfv G r
def cc (G : Gx) (w : Wd) (k : Nat) (x : Sh) : va_E := match x with
  | .inl (ci, sl) => .inr (ci, sl.mapIdx (fv G (w.2.1 k)))
  | .inr (.inl (t, n)) => .inl (Gt G t, n, if t = 3 then .inr (.inl w.2.2) else .inl (w.2.1 k))
  | .inr (.inr (t, n, f)) => .inl (Gt G t, n, .inr (.inr (.inr (.inr fun j => (f j).map (adr G)))))
def cw (G : Gx) (w : Wd) : va_W := w.1.mapIdx fun k x => (adr G k, cc G w k x)
/-- one number written -/
def mset (m : Nat → Nat → Int32) (k j : Nat) (v : Int32) : Nat → Nat → Int32 := fun a b => if a = k then (if b = j then v else m a b) else m a b
theorem mset_ne {m : Nat → Nat → Int32} {k j a : Nat} {v : Int32} (h : a ≠ k) : mset m k j v a = m a := by funext b; simp [mset, h]
theorem mset_at {m : Nat → Nat → Int32} {k j : Nat} {v : Int32} : mset m k j v k = upd (m k) j v := by funext b; simp [mset, upd]
theorem cw_at {G : Gx} {w : Wd} {k : Nat} {x : Sh} (h : w.1[k]? = some x) : (cw G w)[k]? = some (adr G k, cc G w k x) := by simp [cw, List.getElem?_mapIdx, h]
theorem cw_len (G : Gx) (w : Wd) : (cw G w).length = w.1.length := by simp [cw]
/-- the world with the cell k made anew -/
theorem cw_set {G : Gx} {w w' : Wd} {k : Nat} {x x' : Sh} (hx : w.1[k]? = some x) (h1 : w'.1 = w.1.set k x') (h2 : ∀ a y, a ≠ k → w.1[a]? = some y → cc G w' a y = cc G w a y) : (cw G w).set k (adr G k, cc G w' k x') = cw G w' := by
  have hk : k < w.1.length := (List.getElem?_eq_some_iff.mp hx).1
  apply List.ext_getElem?
  intro a
  by_cases ha : a = k
  · subst ha
    rw [List.getElem?_set_self (by rw [cw_len]; exact hk)]
    exact (cw_at (by rw [h1, List.getElem?_set_self hk])).symm
  · rw [List.getElem?_set_ne (Ne.symm ha)]
    simp only [cw, List.getElem?_mapIdx, h1, List.getElem?_set_ne (Ne.symm ha)]
    cases hy : w.1[a]? with
    | none => rfl
    | some y => simp [h2 a y ha hy]
theorem adr_lt {G : Gx} {k : Nat} (h : k < 1000) : adr G k = Gb G + k := by simp [adr, h]
theorem cw_D {G : Gx} {w : Wd} (h : w.1.length ≤ 1000) : va_D (fun q => Gb G ≤ q) (cw G w) := by
  have key : ∀ (k : Nat) (q : Nat × va_E), (cw G w)[k]? = some q → q.1 = Gb G + k := by
    intro k q hk
    have hl : k < w.1.length := by have := (List.getElem?_eq_some_iff.mp hk).1; rwa [cw_len] at this
    simp only [cw, List.getElem?_mapIdx, List.getElem?_eq_getElem hl, Option.map_some] at hk
    cases hk
    exact adr_lt (by omega)
  refine ⟨fun i j p q hp hq he => ?_, fun k q hk => ?_⟩
  · have h1 := key i p hp
    have h2 := key j q hq
    omega
  · have h1 := key k q hk
    show Gb G ≤ q.1
    omega
/-- kinds of rows: int, byte, boolean, long, bell states -/
def tysG (G : Gx) : List (ClassId × FieldType) := [(Gt G 0, .int), (Gt G 1, .byte), (Gt G 2, .boolean), (Gt G 3, .long), (Gt G 4, .object "BellTowerPlanner$BellState")]
/-- the static tables: class, field, place, values -/
def tblS : List (String × String × Nat × List Int32) := [
  ("BellTowerPlanner$Plans", "POWER", 1001, [1, 3, 9, 27, 81, 243, 729, 2187, 6561]),
  ("BellTowerPlanner$TowerText", "FIRST_RANGE", 1002, [0, 2, 5, 7, 8]),
  ("BellTowerPlanner$TowerText", "LEAST", 1003, [300, 0, 10, 2, 4, 0, 1, 100]),
  ("BellTowerPlanner$TowerText", "GREATEST", 1004, [5000, 50000, 3000, 10, 40, 1439, 1440, 9999])]
/-- the texts of exceptions and keywords: class, entry, text, place -/
def strS : List (String × Nat × String × Nat) := [
  ("BellTowerPlanner$TowerText", 91, "beam", 1010),
  ("BellTowerPlanner$TowerText", 97, "bell", 1011),
  ("BellTowerPlanner$TowerText", 99, "quiet", 1012),
  ("BellTowerPlanner$TowerText", 101, "rope", 1013),
  ("BellTowerPlanner", 87, "the text buffer is full", 1014),
  ("BellTowerPlanner", 332, "an argument is out of its range", 1015),
  ("BellTowerPlanner", 327, "no tower text was loaded", 1016),
  ("BellTowerPlanner", 334, "the bell does not hang", 1017),
  ("BellTowerPlanner", 228, "a bell has no gap to itself", 1018),
  ("BellTowerPlanner", 237, "the bells do not hang on the same beam", 1019),
  ("BellTowerPlannerModel", 159, "beam", 1010),
  ("BellTowerPlannerModel", 180, "bell", 1011),
  ("BellTowerPlannerModel", 185, "quiet", 1012),
  ("BellTowerPlannerModel", 190, "rope", 1013)]
def gA (G : Gx) : Nat → Prop := fun q => Gb G ≤ q
def EXt (G : Gx) (U : State) (H : Heap) : Prop := ∀ q ∈ tblS, va_Z q.1 q.2.1 "[I" (.ref (adr G q.2.2.1)) (gA G) U H ∧ va_T .int (adr G q.2.2.1) q.2.2.2.length (fun j => .int (q.2.2.2.getD j 0)) (gA G) U H
def EXs (G : Gx) (U : State) : Prop := ∀ q ∈ strS, vk_R q.1 q.2.1 q.2.2.1 (adr G q.2.2.2) U
def EXz (G : Gx) (U : State) (H : Heap) : Prop := vx_Zq Bundle.tN "UNASSIGNED_STACK" Bundle.steD (gA G) U H ∧ vx_Zq Bundle.tN "SUPPRESSED_SENTINEL" Bundle.listD (gA G) U H
/-- words that are true by the tables, but that no callee is paid with: what can be cast, what can't, links of nest mates -/
def castS : List (String × String) := [("java/lang/IllegalStateException", "java/lang/IllegalStateException"), ("java/lang/IllegalArgumentException", "java/lang/IllegalArgumentException"), ("java/util/NoSuchElementException", "java/util/NoSuchElementException")]
def ncastS : List (String × String) := [("java/lang/IllegalArgumentException", "java/lang/IllegalStateException"), ("java/util/NoSuchElementException", "java/lang/IllegalStateException"), ("java/util/NoSuchElementException", "java/lang/IllegalArgumentException")]
def nestS : List (Nat × MethodName) := [(9, ⟨"BellTowerPlanner$TowerText", "<init>", "()V"⟩), (18, ⟨"BellTowerPlanner$Tower", "<init>", "()V"⟩)]
def iniS (X : String) : MethodName := ⟨X, "<init>", "(Ljava/lang/String;)V"⟩
def declS : List MethodName := [iniS "java/lang/RuntimeException", iniS "java/lang/Exception", iniS "java/lang/Throwable"]
def EXc (U : State) : Prop := (∀ q ∈ declS, va_Nw (.declares q) U) ∧ (∀ q ∈ castS, va_Nw (.castable q.1 q.2) U) ∧ (∀ q ∈ ncastS, va_Nc q.1 q.2 U) ∧ (∀ q ∈ nestS, va_Nw (.methodLinkNest "BellTowerPlanner" q.1 q.2 "BellTowerPlanner") U)
/-- the keywords' texts: place, place of the bytes, bytes -/
def kwS : List (Nat × Nat × List Int32) := [(1010, 1030, [98, 101, 97, 109]), (1011, 1031, [98, 101, 108, 108]), (1012, 1032, [113, 117, 105, 101, 116]), (1013, 1033, [114, 111, 112, 101])]
def EXk (G : Gx) (U : State) (H : Heap) : Prop := ∀ q ∈ kwS, va_O "java/lang/String" (adr G q.1) (gA G) U H ∧ va_OF "java/lang/String" "coder" "B" (.int 0) (adr G q.1) (gA G) U H ∧ va_OF "java/lang/String" "value" "[B" (.ref (adr G q.2.1)) (adr G q.1) (gA G) U H ∧ va_T .byte (adr G q.2.1) q.2.2.length (fun j => .int (q.2.2.getD j 0)) (gA G) U H
def EXf (G : Gx) (U : State) (H : Heap) : Prop := va_Z "java/lang/String" "COMPACT_STRINGS" "Z" (.int 1) (gA G) U H ∧ ∃ v : Value, (v = .null ∨ v = .ref 1005) ∧ va_Z "jdk/internal/util/Preconditions" "SIOOBE_FORMATTER" "Ljava/util/function/BiFunction;" (cv G v) (gA G) U H
def EXx (G : Gx) (U : State) (H : Heap) : Prop := va_X (adr G 1000) (Gn G) (Gs G) U H ∧ adr G 1000 < Gb G
def EY (G : Gx) (U : State) (H : Heap) : Prop := EXk G U H ∧ EXf G U H ∧ EXx G U H ∧ va_AO "BellTowerPlanner$BellState" U
theorem EY.moved {G : Gx} {s U : State} {H : Heap} (hvm : s.vm.Alike U.vm) (h : EY G s H) : EY G U H := by
  obtain ⟨h1, ⟨h2, v, hv, h3⟩, ⟨h4, h5⟩, h6⟩ := h
  exact ⟨fun q hq => ⟨va_O.moved hvm (h1 q hq).1, va_OF.moved hvm (h1 q hq).2.1, va_OF.moved hvm (h1 q hq).2.2.1, va_T.moved hvm (h1 q hq).2.2.2⟩, ⟨va_Z.moved hvm h2, v, hv, va_Z.moved hvm h3⟩, ⟨va_X.moved hvm h4, h5⟩, va_AO.moved hvm h6⟩
theorem EY.kept {G : Gx} {U : State} {H H1 : Heap} (h : EY G U H) (hq : ∀ a : Nat, a < H.size → ¬ gA G a → H1[a]? = H[a]?) : EY G U H1 := by
  obtain ⟨h1, ⟨h2, v, hv, h3⟩, ⟨h4, h5⟩, h6⟩ := h
  refine ⟨fun q h => ⟨(h1 q h).1.kept hq, (h1 q h).2.1.kept hq, (h1 q h).2.2.1.kept hq, (h1 q h).2.2.2.kept hq⟩, ⟨h2.kept hq, v, hv, h3.kept hq⟩, ⟨h4.kept (hq _ ?_ ?_), h5⟩, h6⟩
  · obtain ⟨scr, h, -⟩ := h4
    exact (Array.getElem?_eq_some_iff.mp h).1
  · exact fun h => absurd h (Nat.not_le.mpr h5)
def EX (G : Gx) (U : State) (H : Heap) : Prop := EXt G U H ∧ EXs G U ∧ EXz G U H ∧ (Gl G).stackTraces = false ∧ EXc U ∧ EY G U H
theorem EX.warm {G : Gx} {s U : State} {H : Heap} (hW : s.WarmedH U.vm) (h : EX G s H) : EX G U H :=
  ⟨fun q hq => ⟨va_Z.moved hW.alike (h.1 q hq).1, va_T.moved hW.alike (h.1 q hq).2⟩, fun q hq => vk_R.warm hW (h.2.1 q hq), ⟨vx_Zq.moved hW.alike h.2.2.1.1, vx_Zq.moved hW.alike h.2.2.1.2⟩, h.2.2.2.1, ⟨fun q hq => va_Nw.warmD hW (h.2.2.2.2.1.1 q hq), fun q hq => va_Nw.warmC hW (h.2.2.2.2.1.2.1 q hq), fun q hq => va_Nc.moved hW.alike (h.2.2.2.2.1.2.2.1 q hq), fun q hq => va_Nw.warmM hW (h.2.2.2.2.1.2.2.2 q hq)⟩, EY.moved hW.alike h.2.2.2.2.2⟩
theorem EX.same {G : Gx} {s U : State} {H : Heap} (hv : U.vm = s.vm) (h : EX G s H) : EX G U H :=
  ⟨fun q hq => ⟨va_Z.moved (by rw [hv]; exact Vm.Alike.refl _) (h.1 q hq).1, va_T.moved (by rw [hv]; exact Vm.Alike.refl _) (h.1 q hq).2⟩, fun q hq => vk_R.same hv (h.2.1 q hq), ⟨vx_Zq.moved (by rw [hv]; exact Vm.Alike.refl _) h.2.2.1.1, vx_Zq.moved (by rw [hv]; exact Vm.Alike.refl _) h.2.2.1.2⟩, h.2.2.2.1, ⟨fun q hq => va_Nw.same rfl hv.symm (h.2.2.2.2.1.1 q hq), fun q hq => va_Nw.same rfl hv.symm (h.2.2.2.2.1.2.1 q hq), fun q hq => va_Nc.moved (by rw [hv]; exact Vm.Alike.refl _) (h.2.2.2.2.1.2.2.1 q hq), fun q hq => va_Nw.same rfl hv.symm (h.2.2.2.2.1.2.2.2 q hq)⟩, EY.moved (by rw [hv]; exact Vm.Alike.refl _) h.2.2.2.2.2⟩
theorem EX.kept {G : Gx} {U : State} {H H1 : Heap} (h : EX G U H) (hq : ∀ a : Nat, a < H.size → ¬ gA G a → H1[a]? = H[a]?) : EX G U H1 :=
  ⟨fun q h1 => ⟨(h.1 q h1).1.kept hq, (h.1 q h1).2.kept hq⟩, h.2.1, ⟨h.2.2.1.1.kept hq, h.2.2.1.2.kept hq⟩, h.2.2.2.1, h.2.2.2.2.1, h.2.2.2.2.2.kept hq⟩
/-- the tables' words that any callee can be paid with -/
def gt : List Cond := lw_tbl.filter goodWord
theorem gt_in {w : Cond} (h : w ∈ lw_tbl) (hg : goodWord w = true) : w ∈ gt := List.mem_filter.mpr ⟨h, hg⟩
theorem gt_good : GoodIn gt gt := fun w hw => ⟨hw, good_of_word (List.mem_filter.mp hw).2⟩
/-- a method: name, code, locals, answer's kind, table, frames and locals' words that it needs -/
abbrev Md : Type := MethodName × ByteArray × Nat × Option FieldType × List (Nat × Nat × Nat × Nat) × Nat × Nat
abbrev mY (M : Md) : MethodName := M.1
abbrev mC (M : Md) : ByteArray := M.2.1
abbrev mN (M : Md) : Nat := M.2.2.1
abbrev mR (M : Md) : Option FieldType := M.2.2.2.1
abbrev mT (M : Md) : List (Nat × Nat × Nat × Nat) := M.2.2.2.2.1
abbrev mF (M : Md) : Nat := M.2.2.2.2.2.1
abbrev mL (M : Md) : Nat := M.2.2.2.2.2.2
def mW (M : Md) : Cond := match mT M with
  | [] => .code (mY M) (mC M) (mN M) (mR M)
  | _ => .codeWith (mY M) (mC M) (mN M) (mR M) (mT M)
/-- what a method's run rests on, and no instruction changes -/
def Cx (G : Gx) (M : Md) (p : Program) (R : Room) (s : State) (m : MethodId) (args : Array Value) (meth : Method) (c : Code) : Prop :=
  p.tables.exec = Jvm.exec ∧ c.code = mC M ∧ meth.sig.returnType = mR M ∧ meth.locks = false ∧ c.maxLocals = mN M ∧ s.vm.findClass (mY M).cls = some m.cls ∧ meth.name = (mY M).name ∧
  (∀ w ∈ gt, w.before args s = true) ∧ va_K (Gd G) vwCl (tysG G) s ∧ EX G s s.heap ∧ c.exceptionTable.toList = tableOf (mT M) ∧ Gb G ≤ s.heap.size ∧ mF M ≤ R.frames ∧ mL M ≤ R.locals ∧ (Gl G).stackTraces = false
/-- how a heap holds a world; in the making (g) every new cell is a cell of the world -/
def Rl (G : Gx) (s : State) (H : Heap) (locs : List Loc) (w : Wd) (g : Bool) : Prop :=
  va_P (Gd G) vwCl (cw G w) H ∧ va_S (gA G) s.heap H locs ∧ w.1.length ≤ 1000 ∧ (g = true → H.size = Gb G + w.1.length)
abbrev Ou : Type := Option Value ⊕ String
def Wat (G : Gx) (z : Wd) (g : Bool) (t : State) : Prop := va_P (Gd G) vwCl (cw G z) t.heap ∧ z.1.length ≤ 1000 ∧ (g = true → t.heap.size = Gb G + z.1.length)
def Qr (G : Gx) (o : Ou) (z : Wd) (g : Bool) : Array Value → State → Outcome → State → Prop := fun _ st oc t =>
  ∃ v : Option Value, o = .inl v ∧ oc = .returned (v.map (cv G)) ∧ Wat G z g t ∧ va_F (gA G) st t
def Xr (G : Gx) (o : Ou) (z : Wd) : String → State → State → Prop := fun E st t => o = .inr E ∧ Wat G z false t ∧ va_F (gA G) st t
def lvc (G : Gx) (L : List (Nat × Value)) : List (Nat × Value) := L.map fun q => (q.1, cv G q.2)
/-- from this point the method M comes to the outcome o, the world being z then; a cells and b slots are enough for the rest -/
def J (G : Gx) (M : Md) (pc : Nat) (L : List (Nat × Value)) (st : List Value) (w : Wd) (g : Bool) (o : Ou) (z : Wd) (h : Bool) (a b : Nat) : Prop :=
  ∀ (p : Program) (e : Env) (R : Room) (s : State) (m : MethodId) (args : Array Value) (below : List Frame) (meth : Method) (c : Code), Cx G M p R s m args meth c →
  ∀ (H : Heap) (locs : List Loc) (ls : Array Slot) (cells slots : Nat), Rl G s H locs w g → lv_has ls (mN M) (lvc G L) → cells + a ≤ R.cells → slots + b ≤ R.slots →
  W p (Gl G) e R s m args below meth c H locs cells slots (vx_MQ below (Qr G o z h) (Xr G o z) args s (cells + a) (slots + b) (gA G)) (F0 m pc ls (st.map (cv G)))
/-- a method's start -/
def Pq (G : Gx) (as : List Value) (w : Wd) (g : Bool) : Array Value → State → Prop := fun v U =>
  v = (as.map (cv G)).toArray ∧ Wat G w g U ∧ va_K (Gd G) vwCl (tysG G) U ∧ EX G U U.heap ∧ Gb G ≤ U.heap.size
/-- the contract: from these arguments and this world, this outcome and that world -/
def Ct (G : Gx) (M : Md) (as : List Value) (w : Wd) (g : Bool) (o : Ou) (z : Wd) (h : Bool) (a b : Nat) : Prop :=
  vx_Met (Gl G) (mY M) (mW M :: gt) { frames := mF M, cells := a, slots := b, locals := mL M } (Pq G as w g) (Qr G o z h) (Xr G o z) a b (gA G)
theorem Pq_blind {G : Gx} {as : List Value} {w : Wd} {g : Bool} : FrameBlind (Pq G as w g) := by
  intro a U f mk ⟨h1, h2, h3, h4, h5⟩
  exact ⟨h1, h2, va_K.moved (u := U) (U := U.calling f mk a) (Vm.Alike.refl U.vm) h3, EX.same (s := U) (U := U.calling f mk a) rfl h4, h5⟩
theorem lvc_args (G : Gx) : ∀ (as : List Value) (i : Nat), lv_args i (as.map (cv G)) = lvc G (lv_args i as) := by
  intro as
  induction as with
  | nil => intro i; rfl
  | cons v l ih =>
    intro i
    show (i, cv G v) :: lv_args (if (cv G v).category = 2 then i + 2 else i + 1) (l.map (cv G)) = (i, cv G v) :: lvc G (lv_args (if v.category = 2 then i + 2 else i + 1) l)
    rw [cv_cat, ih]
theorem lg_sl_len (G : Gx) : ∀ (as : List Value), (lg_sl (as.map (cv G))).length = (lg_sl as).length := by
  intro as
  induction as with
  | nil => rfl
  | cons v l ih =>
    have h : ∀ (x : Value) (r : List Value), (lg_sl (x :: r)).length = (if x.category = 2 then 2 else 1) + (lg_sl r).length := by
      intro x r
      simp only [lg_sl]
      cases x <;> simp [Value.category] <;> omega
    rw [List.map_cons, h, h, cv_cat, ih]
/-- the local at i -/
def lk (i : Nat) : List (Nat × Value) → Option Value
  | [] => none
  | q :: l => cond (Nat.beq q.1 i) (some q.2) (lk i l)
def lset (i : Nat) (v : Value) (L : List (Nat × Value)) : List (Nat × Value) := (i, v) :: L.filter (fun q => !(q.1 == i) && !(q.1 + 1 == i && q.2.category == 2))
theorem lk_mem {i : Nat} {v : Value} : ∀ {L : List (Nat × Value)}, lk i L = some v → (i, v) ∈ L
  | [], h => by simp [lk] at h
  | q :: l, h => by
    simp only [lk] at h
    cases hq : Nat.beq q.1 i with
    | true =>
      rw [hq] at h
      have e1 : q.1 = i := Nat.eq_of_beq_eq_true hq
      have e2 : q.2 = v := Option.some.inj h
      rw [← e1, ← e2]
      exact List.mem_cons_self
    | false =>
      rw [hq] at h
      exact List.mem_cons_of_mem _ (lk_mem h)
theorem lk_in {G : Gx} {i : Nat} {v : Value} {L : List (Nat × Value)} (h : lk i L = some v) : (i, cv G v) ∈ lvc G L := List.mem_map.mpr ⟨(i, v), lk_mem h, rfl⟩
theorem lk_at {G : Gx} {ls : Array Slot} {n i : Nat} {v : Value} {L : List (Nat × Value)} (hl : lv_has ls n (lvc G L)) (h : lk i L = some v) : ls[i]? = some (.val (cv G v)) := hl.2.2 (i, cv G v) (lk_in h)
theorem lset_c (G : Gx) (i : Nat) (v : Value) (L : List (Nat × Value)) : (i, cv G v) :: (lvc G L).filter (fun q => !(q.1 == i) && !(q.1 + 1 == i && q.2.category == 2)) = lvc G (lset i v L) := by
  simp only [lvc, lset, List.map_cons, List.filter_map]
  congr 2
  apply List.filter_congr
  intro q _
  simp [Function.comp, cv_cat]
