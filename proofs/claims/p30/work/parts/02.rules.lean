def nsts : List (String × Nat × MethodName × String) := [(RX6, 9, yX5_init, "ReachedHeap"), (RX6, 31, yX0_init, "ReachedHeap"), (RX1, 23, yX3_init, "ReachedHeap"), (RX1, 38, yX6_bit, "ReachedHeap"), (RX1, 51, yX6_isIn, "ReachedHeap"), (RX1, 61, yX6_lowestOf, "ReachedHeap"), (RX2, 17, yX5_init, "ReachedHeap"), (RX2, 39, yX6_isError, "ReachedHeap"), (RX3, 19, yX6_isIn, "ReachedHeap"), (RX3, 29, yX6_bit, "ReachedHeap"), (RX4, 17, yX3_init, "ReachedHeap"), (RX4, 25, yX6_bit, "ReachedHeap"), (RX4, 104, yX6_lowestOf, "ReachedHeap"), (RX5, 20, yX4_init, "ReachedHeap"), (RX5, 33, yX6_isIn, "ReachedHeap"), (RX5, 62, yX6_bit, "ReachedHeap")]
/-! THE RULES OF A BODY'S WALK over a world that is a function of numbers (St): a rule an instruction, a call by its contract -/
abbrev St : Type := (Nat → Int32) × (Nat → Nat → Int32)
def us (f : Nat → Int32) (r : Nat) (v : Int32) : Nat → Int32 := fun k => if k = r then v else f k
def ua (f : Nat → Nat → Int32) (a : Nat) (g : Nat → Int32) : Nat → Nat → Int32 := fun b => if b = a then g else f b
/-- a number written; a place of a row written; a row written whole -/
def sR (w : St) (r : Nat) (v : Int32) : St := (us w.1 r v, w.2)
def sG (w : St) (a : Nat) (g : Nat → Int32) : St := (w.1, ua w.2 a g)
def sA (w : St) (a : Nat) (i v : Int32) : St := sG w a (upd (w.2 a) i.toNatClampNeg v)
/-- an index in a row -/
abbrev ib (i : Int32) (n : Nat) : Prop := ¬ i < 0 ∧ i.toNatClampNeg < n
theorem ib_in {i : Int32} {n : Nat} (h : ib i n) : vp_in i n := fun q => q.elim h.1 (fun z => absurd h.2 (Nat.not_lt.mpr z))
def lo_has (ls : Array Slot) (nL : Nat) (lo : List (Option Value)) : Prop := ls.size = nL ∧ lv_wf ls ∧ ∀ (i : Nat) (v : Value), lo[i]? = some (some v) → ls[i]? = some (.val v)
def lp (lo : List (Option Value)) : List (Nat × Value) := (List.range lo.length).filterMap (fun i => (lo.getD i none).map (fun v => (i, v)))
theorem mem_lp {lo : List (Option Value)} {i : Nat} {v : Value} : (i, v) ∈ lp lo ↔ lo[i]? = some (some v) := by
  unfold lp
  rw [List.mem_filterMap]
  constructor
  · rintro ⟨k, hk, h⟩
    rw [List.mem_range] at hk
    rw [Option.map_eq_some_iff] at h
    obtain ⟨u, h1, h2⟩ := h
    cases h2
    rw [List.getD_eq_getElem?_getD, List.getElem?_eq_getElem hk] at h1
    rw [List.getElem?_eq_getElem hk]
    exact congrArg some h1
  · intro h
    have hk := (List.getElem?_eq_some_iff.mp h).1
    refine ⟨i, List.mem_range.mpr hk, ?_⟩
    rw [List.getD_eq_getElem?_getD, h]
    rfl
theorem lo_lv {ls : Array Slot} {nL : Nat} {lo : List (Option Value)} (h : lo_has ls nL lo) : lv_has ls nL (lp lo) := ⟨h.1, h.2.1, fun q hq => h.2.2 q.1 q.2 (mem_lp.mp hq)⟩
def cat1 (lo : List (Option Value)) : Bool := lo.all (fun o => match o with
  | none => true
  | some v => v.category == 1)
theorem lo_sto {ls' : Array Slot} {nL i : Nat} {v : Value} {lo : List (Option Value)} (hc : cat1 lo = true) (h : lv_has ls' nL ((i, v) :: (lp lo).filter (fun q => !(q.1 == i) && !(q.1 + 1 == i && q.2.category == 2)))) : lo_has ls' nL (lo.set i (some v)) := by
  refine ⟨h.1, h.2.1, fun j u hj => ?_⟩
  by_cases e : j = i
  · subst e
    have hl : j < lo.length := by
      have := (List.getElem?_eq_some_iff.mp hj).1
      rwa [List.length_set] at this
    rw [List.getElem?_set_self hl] at hj
    cases hj
    exact h.2.2 (j, v) List.mem_cons_self
  · rw [List.getElem?_set_ne (Ne.symm e)] at hj
    refine h.2.2 (j, u) (List.mem_cons_of_mem _ (List.mem_filter.mpr ⟨mem_lp.mpr hj, ?_⟩))
    have h1 := List.all_eq_true.mp hc _ (List.mem_of_getElem? hj)
    have h2 : u.category = 1 := by simpa using h1
    simp [e, h2]
def lo0 (nL : Nat) (As : List Value) : List (Option Value) := As.map some ++ List.replicate (nL - As.length) none
theorem lg_sl_cat {As : List Value} (hc : As.all (fun v => v.category == 1) = true) : lg_sl As = As.map Slot.val := by
  induction As with
  | nil => rfl
  | cons v t ih =>
    rw [List.all_cons, Bool.and_eq_true] at hc
    have h1 : v.category = 1 := by simpa using hc.1
    have h2 := ih hc.2
    unfold lg_sl at h2 ⊢
    rw [List.flatMap_cons, h2, if_neg (by omega)]
    rfl
theorem lo_entry {As : List Value} {nL : Nat} (hc : As.all (fun v => v.category == 1) = true) (hn : As.length ≤ nL) : lo_has ((lg_sl As ++ List.replicate (nL - (lg_sl As).length) Slot.unset).toArray) nL (lo0 nL As) := by
  have hs := lg_sl_cat hc
  have hl := lv_entry As (n := nL) (by rw [hs, List.length_map]; exact hn)
  refine ⟨hl.1, hl.2.1, fun i v hi => ?_⟩
  rw [hs, List.getElem?_toArray]
  unfold lo0 at hi
  by_cases h : i < As.length
  · rw [List.getElem?_append_left (by rw [List.length_map]; exact h), List.getElem?_map, List.getElem?_eq_getElem h] at hi
    rw [List.getElem?_append_left (by rw [List.length_map]; exact h), List.getElem?_map, List.getElem?_eq_getElem h]
    cases hi
    rfl
  · rw [List.getElem?_append_right (by rw [List.length_map]; omega)] at hi
    have h3 := List.eq_of_mem_replicate (List.mem_of_getElem? hi)
    cases h3
section GG
variable {p : Program} {l : Launch} {e : Env} {R : Room} {s : State} {m : MethodId} {args : Array Value} {below : List Frame} {meth : Method} {c : Code} {D : va_G} {A : Nat → Prop} {nL : Nat} {Q : State → Prop} {Wt : Type} {kc ks : Nat} {wf : Wt → va_W} {cc : ByteArray} {own : String} {cI : ClassId × ClassId} {pc : Nat} {lo : List (Option Value)} {st : List Value} {w : Wt}
def gN (U : State) : Prop := (∀ q ∈ nsts, va_Nw (.methodLinkNest q.1 q.2.1 q.2.2.1 q.2.2.2) U) ∧ va_AO "ReachedHeap$State" U
theorem gN.warm {s U : State} (hW : s.WarmedH U.vm) (h : gN s) : gN U := ⟨fun q hq => va_Nw.warmM hW (h.1 q hq), va_AO.moved hW.alike h.2⟩
theorem gN.blind {U : State} {g : JFrame} {mk : MethodId} {a : Array Value} (h : gN U) : gN (U.calling g mk a) := ⟨fun q hq => va_Nw.same rfl rfl (h.1 q hq), va_AO.moved (u := U) (U := U.calling g mk a) (Vm.Alike.refl U.vm) h.2⟩
def gK (D : va_G) (cI : ClassId × ClassId) (U : State) : Prop := va_K D vwCl [(cI.1, .int), (cI.2, .object "ReachedHeap$State")] U ∧ gN U
theorem gK.warm {D : va_G} {cI : ClassId × ClassId} {s U : State} (hW : s.WarmedH U.vm) (h : gK D cI s) : gK D cI U := ⟨va_K.moved hW.alike h.1, h.2.warm hW⟩
theorem gK.blind {D : va_G} {cI : ClassId × ClassId} {U : State} {g : JFrame} {mk : MethodId} {a : Array Value} (h : gK D cI U) : gK D cI (U.calling g mk a) := ⟨va_K.moved (u := U) (U := U.calling g mk a) (Vm.Alike.refl U.vm) h.1, h.2.blind⟩
def gX (p : Program) (s : State) (m : MethodId) (args : Array Value) (meth : Method) (c : Code) (cc : ByteArray) (nL : Nat) (own : String) (D : va_G) (cI : ClassId × ClassId) : Prop :=
  p.tables.exec = Jvm.exec ∧ c.code = cc ∧ c.maxLocals = nL ∧ s.vm.findClass own = some m.cls ∧ (∀ w ∈ lw_g, w.before args s = true) ∧ gK D cI s ∧ meth.locks = false
def G (p : Program) (l : Launch) (e : Env) (R : Room) (s : State) (m : MethodId) (args : Array Value) (below : List Frame) (meth : Method) (c : Code) (D : va_G) (A : Nat → Prop) (nL : Nat) (Q : State → Prop) {Wt : Type} (wf : Wt → va_W) (kc ks : Nat) (pc : Nat) (lo : List (Option Value)) (st : List Value) (w : Wt) : Prop :=
  ∀ (H : Heap) (locs : List Loc) (ls : Array Slot), lo_has ls nL lo → va_P D vwCl (wf w) H → va_D A (wf w) → va_S A s.heap H locs → W p l e R s m args below meth c H locs kc ks Q (F0 m pc ls st)
def gB (D : va_G) (cI : ClassId × ClassId) (A : Nat → Prop) (ws : va_W) (U : State) : Prop := va_P D vwCl ws U.heap ∧ gK D cI U ∧ va_D A ws
def qcI (D : va_G) (A : Nat → Prop) (r : Int32) (ws : va_W) : Array Value → State → Outcome → State → Prop := va_Qi (fun x (_ : Unit) => x = r) (fun _ t => va_P D vwCl ws t.heap ∧ va_D A ws) A
def qcV (D : va_G) (A : Nat → Prop) (ws : va_W) : Array Value → State → Outcome → State → Prop := va_Qv (fun (_ : Unit) => True) (fun _ t => va_P D vwCl ws t.heap ∧ va_D A ws) A
/-- a method's contract: from the world ws it returns the number r, and leaves the world ws' -/
def CTi (l : Launch) (D : va_G) (cI : ClassId × ClassId) (A : Nat → Prop) (y : MethodName) (b : ByteArray) (nL : Nat) (ret : Option FieldType) (rm : Room) (As : List Value) (ws : va_W) (r : Int32) (ws' : va_W) : Prop :=
  Met l y (.code y b nL ret :: lw_g) rm (va_Pc As (gB D cI A ws)) (qcI D A r ws') 0 0 A
def CTv (l : Launch) (D : va_G) (cI : ClassId × ClassId) (A : Nat → Prop) (y : MethodName) (b : ByteArray) (nL : Nat) (ret : Option FieldType) (rm : Room) (As : List Value) (ws ws' : va_W) : Prop :=
  Met l y (.code y b nL ret :: lw_g) rm (va_Pc As (gB D cI A ws)) (qcV D A ws') 0 0 A
theorem gB_blind {As : List Value} {ws : va_W} : FrameBlind (va_Pc As (gB D cI A ws)) := fun a U g mk q => ⟨q.1, q.2.1, gK.blind q.2.2.1, q.2.2.2⟩
theorem CTi.of {y : MethodName} {b : ByteArray} {ret : Option FieldType} {rm : Room} {As : List Value} {r : Int32} {ws' : va_W} (hpl : plainName y.cls = true) (hc : As.all (fun v => v.category == 1) = true) (hn : As.length ≤ nL)
    (h : ∀ (p : Program) (e : Env) (s : State) (m : MethodId) (args : Array Value) (below : List Frame) (meth : Method) (c : Code), gX p s m args meth c b nL y.cls D cI → meth.sig.returnType = ret → G p l e rm s m args below meth c D A nL (MQ below (qcI D A r ws') args s 0 0 A) wf 0 0 0 (lo0 nL As) [] w) : CTi l D cI A y b nL ret rm As (wf w) r ws' := by
  refine Met.ofW (cc := b) (maxL := nL) (ret := ret) hpl rfl ?_
  intro p e s m args below meth c s₁ B hml hv
  obtain ⟨rfl, hP, hK, hD⟩ := hv
  have hts := atoms_spec (ws := .code y b nL ret :: lw_g) B.pre
  have hx : gX p s m As.toArray meth c b nL y.cls D cI := ⟨B.exec, B.bytes, hml, findClass_of_methodNamed B.named, fun w hw => hts w (List.mem_cons_of_mem _ hw), hK, B.notSynchronized⟩
  rw [lg_entry_eq]
  exact h p e s m _ below meth c hx B.returns _ _ _ (lo_entry hc hn) hP hD va_S.rf
theorem CTi.ofF {y : MethodName} {b : ByteArray} {ret : Option FieldType} {rm : Room} {As : List Value} {r : Int32} {ws' : va_W} (hpl : plainFor y = true) (hc : As.all (fun v => v.category == 1) = true) (hn : As.length ≤ nL)
    (h : ∀ (p : Program) (e : Env) (s : State) (m : MethodId) (args : Array Value) (below : List Frame) (meth : Method) (c : Code), gX p s m args meth c b nL y.cls D cI → meth.sig.returnType = ret → G p l e rm s m args below meth c D A nL (MQ below (qcI D A r ws') args s 0 0 A) wf 0 0 0 (lo0 nL As) [] w) : CTi l D cI A y b nL ret rm As (wf w) r ws' := by
  unfold CTi Met
  refine MetFree.of_bodySF (code := b) (maxLocals := nL) (ret := ret) hpl ?_ ?_
  · intro args s m h hn
    obtain ⟨meth, c, h1, h2, h3, h4, h5, h6, -, -⟩ := Cond.code_spec hn (atoms_spec (ws := .code y b nL ret :: lw_g) h _ List.mem_cons_self)
    exact ⟨meth, c, h1, h2, h3, h4, h5, h6⟩
  intro p e s m args below meth c s₁ B hml hv _
  have hh0 : s₁.heap = s.heap := by rw [B.state]; rfl
  suffices hW : W p l e rm s m args below meth c s.heap [] 0 0 (MQ below (qcI D A r ws') args s 0 0 A) (entryFrame m args nL) by
    obtain ⟨t, a1, o, b1, b2, b3⟩ := hW s₁ hh0 (Stand.of_body B)
    exact ⟨t, o, a1, b1, b2, ⟨b3.1, b3.2⟩⟩
  obtain ⟨rfl, hP, hK, hD⟩ := hv
  have hts := atoms_spec (ws := .code y b nL ret :: lw_g) B.pre
  have hx : gX p s m As.toArray meth c b nL y.cls D cI := ⟨B.exec, B.bytes, hml, findClass_of_methodNamed B.named, fun w hw => hts w (List.mem_cons_of_mem _ hw), hK, B.notSynchronized⟩
  rw [lg_entry_eq]
  exact h p e s m _ below meth c hx B.returns _ _ _ (lo_entry hc hn) hP hD va_S.rf
theorem CTv.of {y : MethodName} {b : ByteArray} {ret : Option FieldType} {rm : Room} {As : List Value} {ws' : va_W} (hpl : plainName y.cls = true) (hc : As.all (fun v => v.category == 1) = true) (hn : As.length ≤ nL)
    (h : ∀ (p : Program) (e : Env) (s : State) (m : MethodId) (args : Array Value) (below : List Frame) (meth : Method) (c : Code), gX p s m args meth c b nL y.cls D cI → meth.sig.returnType = ret → G p l e rm s m args below meth c D A nL (MQ below (qcV D A ws') args s 0 0 A) wf 0 0 0 (lo0 nL As) [] w) : CTv l D cI A y b nL ret rm As (wf w) ws' := by
  refine Met.ofW (cc := b) (maxL := nL) (ret := ret) hpl rfl ?_
  intro p e s m args below meth c s₁ B hml hv
  obtain ⟨rfl, hP, hK, hD⟩ := hv
  have hts := atoms_spec (ws := .code y b nL ret :: lw_g) B.pre
  have hx : gX p s m As.toArray meth c b nL y.cls D cI := ⟨B.exec, B.bytes, hml, findClass_of_methodNamed B.named, fun w hw => hts w (List.mem_cons_of_mem _ hw), hK, B.notSynchronized⟩
  rw [lg_entry_eq]
  exact h p e s m _ below meth c hx B.returns _ _ _ (lo_entry hc hn) hP hD va_S.rf
/-- fewer locals known -/
theorem g_sub {lo' : List (Option Value)} (h : ∀ (i : Nat) (v : Value), lo'[i]? = some (some v) → lo[i]? = some (some v)) (k : G p l e R s m args below meth c D A nL Q wf kc ks pc lo' st w) : G p l e R s m args below meth c D A nL Q wf kc ks pc lo st w :=
  fun H locs ls hl hP hD hS => k H locs ls ⟨hl.1, hl.2.1, fun i v q => hl.2.2 i v (h i v q)⟩ hP hD hS
theorem g_iconst (X : gX p s m args meth c cc nL own D cI) {n : Int} {v : Int32} (d : decode cc pc = .ok (.iconst n, 1)) (hv : Int32.ofInt n = v) (k : G p l e R s m args below meth c D A nL Q wf kc ks (pc + 1) lo (.int v :: st) w) : G p l e R s m args below meth c D A nL Q wf kc ks pc lo st w :=
  fun H locs ls hl hP hD hS => lv_iconst X.1 X.2.1 d hv (k H locs ls hl hP hD hS)
theorem g_bipush (X : gX p s m args meth c cc nL own D cI) {n : Int} {v : Int32} (d : decode cc pc = .ok (.bipush n, 2)) (hv : (Int8.ofInt n).toInt32 = v) (k : G p l e R s m args below meth c D A nL Q wf kc ks (pc + 2) lo (.int v :: st) w) : G p l e R s m args below meth c D A nL Q wf kc ks pc lo st w :=
  fun H locs ls hl hP hD hS => lv_bipush X.1 X.2.1 d hv (k H locs ls hl hP hD hS)
theorem g_sipush (X : gX p s m args meth c cc nL own D cI) {n : Int} {v : Int32} (d : decode cc pc = .ok (.sipush n, 3)) (hv : (Int16.ofInt n).toInt32 = v) (k : G p l e R s m args below meth c D A nL Q wf kc ks (pc + 3) lo (.int v :: st) w) : G p l e R s m args below meth c D A nL Q wf kc ks pc lo st w :=
  fun H locs ls hl hP hD hS => lv_sipush X.1 X.2.1 d hv (k H locs ls hl hP hD hS)
theorem g_ldcw (X : gX p s m args meth c cc nL own D cI) {n : Nat} {v : Int32} (d : decode cc pc = .ok (.ldc_w n, 3)) (hw : Cond.constant own n v ∈ lw_g) (k : G p l e R s m args below meth c D A nL Q wf kc ks (pc + 3) lo (.int v :: st) w) : G p l e R s m args below meth c D A nL Q wf kc ks pc lo st w :=
  fun H locs ls hl hP hD hS => lv_ldcw X.1 X.2.1 X.2.2.2.1 (X.2.2.2.2.1 _ hw) d (k H locs ls hl hP hD hS)
theorem g_ldc (X : gX p s m args meth c cc nL own D cI) {n : Nat} {v : Int32} (d : decode cc pc = .ok (.ldc n, 2)) (hw : Cond.constant own n v ∈ lw_g) (k : G p l e R s m args below meth c D A nL Q wf kc ks (pc + 2) lo (.int v :: st) w) : G p l e R s m args below meth c D A nL Q wf kc ks pc lo st w :=
  fun H locs ls hl hP hD hS => lv_ldc X.1 X.2.1 X.2.2.2.1 (X.2.2.2.2.1 _ hw) d (k H locs ls hl hP hD hS)
theorem g_iload_n (X : gX p s m args meth c cc nL own D cI) {k0 : Fin 4} {i : Nat} {x : Int32} (d : decode cc pc = .ok (.iload_n k0, 1)) (hi : (k0 : Nat) = i) (hl0 : lo[i]? = some (some (.int x))) (k : G p l e R s m args below meth c D A nL Q wf kc ks (pc + 1) lo (.int x :: st) w) : G p l e R s m args below meth c D A nL Q wf kc ks pc lo st w :=
  fun H locs ls hl hP hD hS => lv_iload_n X.1 X.2.1 d hi (hl.2.2 _ _ hl0) (k H locs ls hl hP hD hS)
theorem g_iload (X : gX p s m args meth c cc nL own D cI) {i : Nat} {x : Int32} (d : decode cc pc = .ok (.iload i, 2)) (hl0 : lo[i]? = some (some (.int x))) (k : G p l e R s m args below meth c D A nL Q wf kc ks (pc + 2) lo (.int x :: st) w) : G p l e R s m args below meth c D A nL Q wf kc ks pc lo st w :=
  fun H locs ls hl hP hD hS => lv_iload X.1 X.2.1 d (hl.2.2 _ _ hl0) (k H locs ls hl hP hD hS)
theorem g_aload_n (X : gX p s m args meth c cc nL own D cI) {k0 : Fin 4} {i : Nat} {x : Nat} (d : decode cc pc = .ok (.aload_n k0, 1)) (hi : (k0 : Nat) = i) (hl0 : lo[i]? = some (some (.ref x))) (k : G p l e R s m args below meth c D A nL Q wf kc ks (pc + 1) lo (.ref x :: st) w) : G p l e R s m args below meth c D A nL Q wf kc ks pc lo st w :=
  fun H locs ls hl hP hD hS => lv_aload_n X.1 X.2.1 d hi (hl.2.2 _ _ hl0) (k H locs ls hl hP hD hS)
theorem g_istore_n (X : gX p s m args meth c cc nL own D cI) {k0 : Fin 4} {i : Nat} {x : Int32} (d : decode cc pc = .ok (.istore_n k0, 1)) (hi : (k0 : Nat) = i) (hn : i < nL) (hc : cat1 lo = true) (k : G p l e R s m args below meth c D A nL Q wf kc ks (pc + 1) (lo.set i (some (.int x))) st w) : G p l e R s m args below meth c D A nL Q wf kc ks pc lo (.int x :: st) w :=
  fun H locs ls hl hP hD hS => lv_istore_n X.1 X.2.1 d hi (lo_lv hl) hn rfl (fun ls1 hl1 => k H locs ls1 (lo_sto hc hl1) hP hD hS)
theorem g_istore (X : gX p s m args meth c cc nL own D cI) {i : Nat} {x : Int32} (d : decode cc pc = .ok (.istore i, 2)) (hn : i < nL) (hc : cat1 lo = true) (k : G p l e R s m args below meth c D A nL Q wf kc ks (pc + 2) (lo.set i (some (.int x))) st w) : G p l e R s m args below meth c D A nL Q wf kc ks pc lo (.int x :: st) w :=
  fun H locs ls hl hP hD hS => lv_istore X.1 X.2.1 d (lo_lv hl) hn rfl (fun ls1 hl1 => k H locs ls1 (lo_sto hc hl1) hP hD hS)
theorem g_astore_n (X : gX p s m args meth c cc nL own D cI) {k0 : Fin 4} {i : Nat} {x : Nat} (d : decode cc pc = .ok (.astore_n k0, 1)) (hi : (k0 : Nat) = i) (hn : i < nL) (hc : cat1 lo = true) (k : G p l e R s m args below meth c D A nL Q wf kc ks (pc + 1) (lo.set i (some (.ref x))) st w) : G p l e R s m args below meth c D A nL Q wf kc ks pc lo (.ref x :: st) w :=
  fun H locs ls hl hP hD hS => lv_astore_n X.1 X.2.1 d hi (lo_lv hl) hn rfl (fun ls1 hl1 => k H locs ls1 (lo_sto hc hl1) hP hD hS)
theorem g_iinc (X : gX p s m args meth c cc nL own D cI) {i : Nat} {n : Int} {x v : Int32} (d : decode cc pc = .ok (.iinc i n, 3)) (hl0 : lo[i]? = some (some (.int x))) (hv : Int32.ofInt n = v) (hn : i < nL) (hc : cat1 lo = true) (k : G p l e R s m args below meth c D A nL Q wf kc ks (pc + 3) (lo.set i (some (.int (x + v)))) st w) : G p l e R s m args below meth c D A nL Q wf kc ks pc lo st w := by
  subst hv
  intro H locs ls hl hP hD hS
  obtain ⟨kk, hk⟩ := List.getElem?_of_mem (mem_lp.mpr hl0)
  exact lv_iinc X.1 X.2.1 d (lo_lv hl) hk rfl hn rfl (fun ls1 hl1 => k H locs ls1 (lo_sto hc hl1) hP hD hS)
theorem g_iadd (X : gX p s m args meth c cc nL own D cI) {x y : Int32} (d : decode cc pc = .ok (.iadd, 1)) (k : G p l e R s m args below meth c D A nL Q wf kc ks (pc + 1) lo (.int (x + y) :: st) w) : G p l e R s m args below meth c D A nL Q wf kc ks pc lo (.int y :: .int x :: st) w :=
  fun H locs ls hl hP hD hS => lv_iadd X.1 X.2.1 d (k H locs ls hl hP hD hS)
theorem g_isub (X : gX p s m args meth c cc nL own D cI) {x y : Int32} (d : decode cc pc = .ok (.isub, 1)) (k : G p l e R s m args below meth c D A nL Q wf kc ks (pc + 1) lo (.int (x - y) :: st) w) : G p l e R s m args below meth c D A nL Q wf kc ks pc lo (.int y :: .int x :: st) w :=
  fun H locs ls hl hP hD hS => lv_isub X.1 X.2.1 d (k H locs ls hl hP hD hS)
theorem g_imul (X : gX p s m args meth c cc nL own D cI) {x y : Int32} (d : decode cc pc = .ok (.imul, 1)) (k : G p l e R s m args below meth c D A nL Q wf kc ks (pc + 1) lo (.int (x * y) :: st) w) : G p l e R s m args below meth c D A nL Q wf kc ks pc lo (.int y :: .int x :: st) w :=
  fun H locs ls hl hP hD hS => lv_imul X.1 X.2.1 d (k H locs ls hl hP hD hS)
theorem g_iand (X : gX p s m args meth c cc nL own D cI) {x y : Int32} (d : decode cc pc = .ok (.iand, 1)) (k : G p l e R s m args below meth c D A nL Q wf kc ks (pc + 1) lo (.int (x &&& y) :: st) w) : G p l e R s m args below meth c D A nL Q wf kc ks pc lo (.int y :: .int x :: st) w :=
  fun H locs ls hl hP hD hS => lv_iand X.1 X.2.1 d (k H locs ls hl hP hD hS)
theorem g_ior (X : gX p s m args meth c cc nL own D cI) {x y : Int32} (d : decode cc pc = .ok (.ior, 1)) (k : G p l e R s m args below meth c D A nL Q wf kc ks (pc + 1) lo (.int (x ||| y) :: st) w) : G p l e R s m args below meth c D A nL Q wf kc ks pc lo (.int y :: .int x :: st) w :=
  fun H locs ls hl hP hD hS => lv_ior X.1 X.2.1 d (k H locs ls hl hP hD hS)
theorem g_ixor (X : gX p s m args meth c cc nL own D cI) {x y : Int32} (d : decode cc pc = .ok (.ixor, 1)) (k : G p l e R s m args below meth c D A nL Q wf kc ks (pc + 1) lo (.int (x ^^^ y) :: st) w) : G p l e R s m args below meth c D A nL Q wf kc ks pc lo (.int y :: .int x :: st) w :=
  fun H locs ls hl hP hD hS => lv_ixor X.1 X.2.1 d (k H locs ls hl hP hD hS)
theorem g_ishl (X : gX p s m args meth c cc nL own D cI) {x y : Int32} (d : decode cc pc = .ok (.ishl, 1)) (k : G p l e R s m args below meth c D A nL Q wf kc ks (pc + 1) lo (.int (x <<< (y &&& 31)) :: st) w) : G p l e R s m args below meth c D A nL Q wf kc ks pc lo (.int y :: .int x :: st) w :=
  fun H locs ls hl hP hD hS => lv_ishl X.1 X.2.1 d (k H locs ls hl hP hD hS)
theorem g_ishr (X : gX p s m args meth c cc nL own D cI) {x y : Int32} (d : decode cc pc = .ok (.ishr, 1)) (k : G p l e R s m args below meth c D A nL Q wf kc ks (pc + 1) lo (.int (x >>> (y &&& 31)) :: st) w) : G p l e R s m args below meth c D A nL Q wf kc ks pc lo (.int y :: .int x :: st) w :=
  fun H locs ls hl hP hD hS => lv_ishr X.1 X.2.1 d (k H locs ls hl hP hD hS)
theorem g_idiv (X : gX p s m args meth c cc nL own D cI) {x y : Int32} (d : decode cc pc = .ok (.idiv, 1)) (hy : ¬ y = 0) (k : G p l e R s m args below meth c D A nL Q wf kc ks (pc + 1) lo (.int (x / y) :: st) w) : G p l e R s m args below meth c D A nL Q wf kc ks pc lo (.int y :: .int x :: st) w :=
  fun H locs ls hl hP hD hS => lv_idiv X.1 X.2.1 d hy (k H locs ls hl hP hD hS)
theorem g_irem (X : gX p s m args meth c cc nL own D cI) {x y : Int32} (d : decode cc pc = .ok (.irem, 1)) (hy : ¬ y = 0) (k : G p l e R s m args below meth c D A nL Q wf kc ks (pc + 1) lo (.int (x - x / y * y) :: st) w) : G p l e R s m args below meth c D A nL Q wf kc ks pc lo (.int y :: .int x :: st) w :=
  fun H locs ls hl hP hD hS => lv_irem X.1 X.2.1 d hy (k H locs ls hl hP hD hS)
theorem g_iushr (X : gX p s m args meth c cc nL own D cI) {x y : Int32} (d : decode cc pc = .ok (.iushr, 1)) (k : G p l e R s m args below meth c D A nL Q wf kc ks (pc + 1) lo (.int ((x.toUInt32 >>> (y.toUInt32 &&& Int32.toUInt32 31)).toInt32) :: st) w) : G p l e R s m args below meth c D A nL Q wf kc ks pc lo (.int y :: .int x :: st) w :=
  fun H locs ls hl hP hD hS => lv_iushr X.1 X.2.1 d rfl (k H locs ls hl hP hD hS)
theorem g_dup (X : gX p s m args meth c cc nL own D cI) {v : Value} (d : decode cc pc = .ok (.dup, 1)) (hv : v.category = 1) (k : G p l e R s m args below meth c D A nL Q wf kc ks (pc + 1) lo (v :: v :: st) w) : G p l e R s m args below meth c D A nL Q wf kc ks pc lo (v :: st) w :=
  fun H locs ls hl hP hD hS => lv_dup X.1 X.2.1 d hv (k H locs ls hl hP hD hS)
theorem g_dup2 (X : gX p s m args meth c cc nL own D cI) {v u : Value} (d : decode cc pc = .ok (.dup2, 1)) (hv : v.category = 1) (hu : u.category = 1) (k : G p l e R s m args below meth c D A nL Q wf kc ks (pc + 1) lo (v :: u :: v :: u :: st) w) : G p l e R s m args below meth c D A nL Q wf kc ks pc lo (v :: u :: st) w :=
  fun H locs ls hl hP hD hS => lv_dup2_11 X.1 X.2.1 d hv hu (k H locs ls hl hP hD hS)
theorem g_pop (X : gX p s m args meth c cc nL own D cI) {v : Value} (d : decode cc pc = .ok (.pop, 1)) (hv : v.category = 1) (k : G p l e R s m args below meth c D A nL Q wf kc ks (pc + 1) lo st w) : G p l e R s m args below meth c D A nL Q wf kc ks pc lo (v :: st) w :=
  fun H locs ls hl hP hD hS => lv_pop X.1 X.2.1 d hv (k H locs ls hl hP hD hS)
theorem g_goto (X : gX p s m args meth c cc nL own D cI) {off : Int} {tgt : Nat} (d : decode cc pc = .ok (.goto off, 3)) (ht : (pc : Int) + off = (tgt : Int)) (k : G p l e R s m args below meth c D A nL Q wf kc ks tgt lo st w) : G p l e R s m args below meth c D A nL Q wf kc ks pc lo st w :=
  fun H locs ls hl hP hD hS => lv_goto X.1 X.2.1 d ht (k H locs ls hl hP hD hS)
theorem hfp {β : Type} {q : Prop} {_ : Decidable q} {F1 F2 : Option β} {o : β} (hf : (if q then F1 else F2) = some o) (h : q) : F1 = some o := by rw [if_pos h] at hf; exact hf
theorem hfn {β : Type} {q : Prop} {_ : Decidable q} {F1 F2 : Option β} {o : β} (hf : (if q then F1 else F2) = some o) (h : ¬ q) : F2 = some o := by rw [if_neg h] at hf; exact hf
theorem hfb {β γ : Type} {F : Option β} {g : β → Option γ} {o : γ} (hf : F.bind g = some o) : ∃ b, F = some b ∧ g b = some o := Option.bind_eq_some_iff.mp hf
theorem hfg {β : Type} {q : Prop} {_ : Decidable q} {F1 : Option β} {o : β} (hf : (if q then F1 else none) = some o) : q ∧ F1 = some o := by
  by_cases h : q
  · rw [if_pos h] at hf; exact ⟨h, hf⟩
  · rw [if_neg h] at hf; cases hf
theorem hfi {β : Type} {q : Prop} {_ : Decidable q} {F1 F2 : Option β} {o : β} (hf : (if q then F1 else F2) = some o) : (q ∧ F1 = some o) ∨ (¬ q ∧ F2 = some o) := by
  by_cases h : q
  · rw [if_pos h] at hf; exact Or.inl ⟨h, hf⟩
  · rw [if_neg h] at hf; exact Or.inr ⟨h, hf⟩
def BIG : Nat := 100000
abbrev cpb (sp dp n : Int32) (n0 n1 : Nat) : Prop := ¬ sp < 0 ∧ ¬ dp < 0 ∧ ¬ n < 0 ∧ sp.toNatClampNeg + n.toNatClampNeg ≤ n0 ∧ dp.toNatClampNeg + n.toNatClampNeg ≤ n1
def losubP : List (Option Value) → List (Option Value) → Prop
  | [], _ => True
  | none :: t, _ :: u => losubP t u
  | none :: t, [] => losubP t []
  | some v :: t, o :: u => o = some v ∧ losubP t u
  | some _ :: _, [] => False
theorem losub {lo' lo : List (Option Value)} (h : losubP lo' lo) : ∀ (i : Nat) (v : Value), lo'[i]? = some (some v) → lo[i]? = some (some v) := by
  induction lo' generalizing lo with
  | nil => intro i v q; simp at q
  | cons a t ih =>
    intro i v q
    cases a with
    | none =>
      cases lo with
      | nil =>
        cases i with
        | zero => simp at q
        | succ i => exact absurd (ih (lo := []) h i v (by simpa using q)) (by simp)
      | cons b u =>
        cases i with
        | zero => simp at q
        | succ i => simpa using ih (lo := u) h i v (by simpa using q)
    | some x =>
      cases lo with
      | nil => exact absurd h (by simp [losubP])
      | cons b u =>
        obtain ⟨h1, h2⟩ := h
        cases i with
        | zero => simp at q; simp [h1, q]
        | succ i => simpa using ih (lo := u) h2 i v (by simpa using q)
theorem sw_out (x : Int32) (lw hi : Int) (vs : List Int32) (hv : (List.range (hi - lw + 1).toNat).map (fun k => lw + Int.ofNat k) = vs.map Int32.toInt) (h : ∀ v ∈ vs, ¬ x = v) : x.toInt < lw ∨ hi < x.toInt := by
  rcases Int.lt_or_le x.toInt lw with h1 | h1
  · exact Or.inl h1
  rcases Int.lt_or_le hi x.toInt with h2 | h2
  · exact Or.inr h2
  exfalso
  have hm : x.toInt ∈ (List.range (hi - lw + 1).toNat).map (fun k => lw + Int.ofNat k) := List.mem_map.mpr ⟨(x.toInt - lw).toNat, List.mem_range.mpr (by omega), by show lw + ((x.toInt - lw).toNat : Int) = _; omega⟩
  rw [hv] at hm
  obtain ⟨v, hv1, hv2⟩ := List.mem_map.mp hm
  exact h v hv1 (Int32.toInt_inj.mp hv2.symm)
theorem nle {x y : Int32} (h : x ≤ y) : ¬ y < x := Int32.not_lt.mpr h
theorem nnl {x y : Int32} (h : ¬ x ≤ y) : y < x := Int32.not_le.mp h
theorem g_if_eq (X : gX p s m args meth c cc nL own D cI) {x : Int32} {off : Int} {tgt : Nat} {β : Type} {F1 F2 : Option β} {o : β} (d : decode cc pc = .ok (.ifCond .eq off, 3)) (ht : (pc : Int) + off = (tgt : Int)) (hf : (if x = 0 then F1 else F2) = some o) (k1 : (x = 0) → F1 = some o → G p l e R s m args below meth c D A nL Q wf kc ks tgt lo st w) (k2 : ¬ (x = 0) → F2 = some o → G p l e R s m args below meth c D A nL Q wf kc ks (pc + 3) lo st w) : G p l e R s m args below meth c D A nL Q wf kc ks pc lo (.int x :: st) w :=
  fun H locs ls hl hP hD hS => lv_if_eq X.1 X.2.1 d ht (fun a => k1 a (hfp hf a) H locs ls hl hP hD hS) (fun a => k2 a (hfn hf a) H locs ls hl hP hD hS)
theorem g_if_ne (X : gX p s m args meth c cc nL own D cI) {x : Int32} {off : Int} {tgt : Nat} {β : Type} {F1 F2 : Option β} {o : β} (d : decode cc pc = .ok (.ifCond .ne off, 3)) (ht : (pc : Int) + off = (tgt : Int)) (hf : (if x = 0 then F1 else F2) = some o) (k1 : (x = 0) → F1 = some o → G p l e R s m args below meth c D A nL Q wf kc ks (pc + 3) lo st w) (k2 : ¬ (x = 0) → F2 = some o → G p l e R s m args below meth c D A nL Q wf kc ks tgt lo st w) : G p l e R s m args below meth c D A nL Q wf kc ks pc lo (.int x :: st) w :=
  fun H locs ls hl hP hD hS => lv_if_ne X.1 X.2.1 d ht (fun a => k2 a (hfn hf a) H locs ls hl hP hD hS) (fun a => k1 a (hfp hf a) H locs ls hl hP hD hS)
theorem g_if_lt (X : gX p s m args meth c cc nL own D cI) {x : Int32} {off : Int} {tgt : Nat} {β : Type} {F1 F2 : Option β} {o : β} (d : decode cc pc = .ok (.ifCond .lt off, 3)) (ht : (pc : Int) + off = (tgt : Int)) (hf : (if x < 0 then F1 else F2) = some o) (k1 : (x < 0) → F1 = some o → G p l e R s m args below meth c D A nL Q wf kc ks tgt lo st w) (k2 : ¬ (x < 0) → F2 = some o → G p l e R s m args below meth c D A nL Q wf kc ks (pc + 3) lo st w) : G p l e R s m args below meth c D A nL Q wf kc ks pc lo (.int x :: st) w :=
  fun H locs ls hl hP hD hS => lv_if_lt X.1 X.2.1 d ht (fun a => k1 a (hfp hf a) H locs ls hl hP hD hS) (fun a => k2 a (hfn hf a) H locs ls hl hP hD hS)
theorem g_if_ge (X : gX p s m args meth c cc nL own D cI) {x : Int32} {off : Int} {tgt : Nat} {β : Type} {F1 F2 : Option β} {o : β} (d : decode cc pc = .ok (.ifCond .ge off, 3)) (ht : (pc : Int) + off = (tgt : Int)) (hf : (if x < 0 then F1 else F2) = some o) (k1 : (x < 0) → F1 = some o → G p l e R s m args below meth c D A nL Q wf kc ks (pc + 3) lo st w) (k2 : ¬ (x < 0) → F2 = some o → G p l e R s m args below meth c D A nL Q wf kc ks tgt lo st w) : G p l e R s m args below meth c D A nL Q wf kc ks pc lo (.int x :: st) w :=
  fun H locs ls hl hP hD hS => lv_if_ge X.1 X.2.1 d ht (fun a => k2 (nle a) (hfn hf (nle a)) H locs ls hl hP hD hS) (fun a => k1 (nnl a) (hfp hf (nnl a)) H locs ls hl hP hD hS)
theorem g_if_gt (X : gX p s m args meth c cc nL own D cI) {x : Int32} {off : Int} {tgt : Nat} {β : Type} {F1 F2 : Option β} {o : β} (d : decode cc pc = .ok (.ifCond .gt off, 3)) (ht : (pc : Int) + off = (tgt : Int)) (hf : (if 0 < x then F1 else F2) = some o) (k1 : (0 < x) → F1 = some o → G p l e R s m args below meth c D A nL Q wf kc ks tgt lo st w) (k2 : ¬ (0 < x) → F2 = some o → G p l e R s m args below meth c D A nL Q wf kc ks (pc + 3) lo st w) : G p l e R s m args below meth c D A nL Q wf kc ks pc lo (.int x :: st) w :=
  fun H locs ls hl hP hD hS => lv_if_gt X.1 X.2.1 d ht (fun a => k1 a (hfp hf a) H locs ls hl hP hD hS) (fun a => k2 a (hfn hf a) H locs ls hl hP hD hS)
theorem g_if_le (X : gX p s m args meth c cc nL own D cI) {x : Int32} {off : Int} {tgt : Nat} {β : Type} {F1 F2 : Option β} {o : β} (d : decode cc pc = .ok (.ifCond .le off, 3)) (ht : (pc : Int) + off = (tgt : Int)) (hf : (if 0 < x then F1 else F2) = some o) (k1 : (0 < x) → F1 = some o → G p l e R s m args below meth c D A nL Q wf kc ks (pc + 3) lo st w) (k2 : ¬ (0 < x) → F2 = some o → G p l e R s m args below meth c D A nL Q wf kc ks tgt lo st w) : G p l e R s m args below meth c D A nL Q wf kc ks pc lo (.int x :: st) w :=
  fun H locs ls hl hP hD hS => lv_if_le X.1 X.2.1 d ht (fun a => k2 (nle a) (hfn hf (nle a)) H locs ls hl hP hD hS) (fun a => k1 (nnl a) (hfp hf (nnl a)) H locs ls hl hP hD hS)
theorem g_icmp_eq (X : gX p s m args meth c cc nL own D cI) {x y : Int32} {off : Int} {tgt : Nat} {β : Type} {F1 F2 : Option β} {o : β} (d : decode cc pc = .ok (.if_icmp .eq off, 3)) (ht : (pc : Int) + off = (tgt : Int)) (hf : (if x = y then F1 else F2) = some o) (k1 : (x = y) → F1 = some o → G p l e R s m args below meth c D A nL Q wf kc ks tgt lo st w) (k2 : ¬ (x = y) → F2 = some o → G p l e R s m args below meth c D A nL Q wf kc ks (pc + 3) lo st w) : G p l e R s m args below meth c D A nL Q wf kc ks pc lo (.int y :: .int x :: st) w :=
  fun H locs ls hl hP hD hS => lv_icmp_eq X.1 X.2.1 d ht (fun a => k1 a (hfp hf a) H locs ls hl hP hD hS) (fun a => k2 a (hfn hf a) H locs ls hl hP hD hS)
theorem g_icmp_ne (X : gX p s m args meth c cc nL own D cI) {x y : Int32} {off : Int} {tgt : Nat} {β : Type} {F1 F2 : Option β} {o : β} (d : decode cc pc = .ok (.if_icmp .ne off, 3)) (ht : (pc : Int) + off = (tgt : Int)) (hf : (if x = y then F1 else F2) = some o) (k1 : (x = y) → F1 = some o → G p l e R s m args below meth c D A nL Q wf kc ks (pc + 3) lo st w) (k2 : ¬ (x = y) → F2 = some o → G p l e R s m args below meth c D A nL Q wf kc ks tgt lo st w) : G p l e R s m args below meth c D A nL Q wf kc ks pc lo (.int y :: .int x :: st) w :=
  fun H locs ls hl hP hD hS => lv_icmp_ne X.1 X.2.1 d ht (fun a => k2 a (hfn hf a) H locs ls hl hP hD hS) (fun a => k1 a (hfp hf a) H locs ls hl hP hD hS)
theorem g_icmp_lt (X : gX p s m args meth c cc nL own D cI) {x y : Int32} {off : Int} {tgt : Nat} {β : Type} {F1 F2 : Option β} {o : β} (d : decode cc pc = .ok (.if_icmp .lt off, 3)) (ht : (pc : Int) + off = (tgt : Int)) (hf : (if x < y then F1 else F2) = some o) (k1 : (x < y) → F1 = some o → G p l e R s m args below meth c D A nL Q wf kc ks tgt lo st w) (k2 : ¬ (x < y) → F2 = some o → G p l e R s m args below meth c D A nL Q wf kc ks (pc + 3) lo st w) : G p l e R s m args below meth c D A nL Q wf kc ks pc lo (.int y :: .int x :: st) w :=
  fun H locs ls hl hP hD hS => lv_icmp_lt X.1 X.2.1 d ht (fun a => k1 a (hfp hf a) H locs ls hl hP hD hS) (fun a => k2 a (hfn hf a) H locs ls hl hP hD hS)
theorem g_icmp_ge (X : gX p s m args meth c cc nL own D cI) {x y : Int32} {off : Int} {tgt : Nat} {β : Type} {F1 F2 : Option β} {o : β} (d : decode cc pc = .ok (.if_icmp .ge off, 3)) (ht : (pc : Int) + off = (tgt : Int)) (hf : (if x < y then F1 else F2) = some o) (k1 : (x < y) → F1 = some o → G p l e R s m args below meth c D A nL Q wf kc ks (pc + 3) lo st w) (k2 : ¬ (x < y) → F2 = some o → G p l e R s m args below meth c D A nL Q wf kc ks tgt lo st w) : G p l e R s m args below meth c D A nL Q wf kc ks pc lo (.int y :: .int x :: st) w :=
  fun H locs ls hl hP hD hS => lv_icmp_ge X.1 X.2.1 d ht (fun a => k2 (nle a) (hfn hf (nle a)) H locs ls hl hP hD hS) (fun a => k1 (nnl a) (hfp hf (nnl a)) H locs ls hl hP hD hS)
theorem g_icmp_gt (X : gX p s m args meth c cc nL own D cI) {x y : Int32} {off : Int} {tgt : Nat} {β : Type} {F1 F2 : Option β} {o : β} (d : decode cc pc = .ok (.if_icmp .gt off, 3)) (ht : (pc : Int) + off = (tgt : Int)) (hf : (if y < x then F1 else F2) = some o) (k1 : (y < x) → F1 = some o → G p l e R s m args below meth c D A nL Q wf kc ks tgt lo st w) (k2 : ¬ (y < x) → F2 = some o → G p l e R s m args below meth c D A nL Q wf kc ks (pc + 3) lo st w) : G p l e R s m args below meth c D A nL Q wf kc ks pc lo (.int y :: .int x :: st) w :=
  fun H locs ls hl hP hD hS => lv_icmp_gt X.1 X.2.1 d ht (fun a => k1 a (hfp hf a) H locs ls hl hP hD hS) (fun a => k2 a (hfn hf a) H locs ls hl hP hD hS)
theorem g_icmp_le (X : gX p s m args meth c cc nL own D cI) {x y : Int32} {off : Int} {tgt : Nat} {β : Type} {F1 F2 : Option β} {o : β} (d : decode cc pc = .ok (.if_icmp .le off, 3)) (ht : (pc : Int) + off = (tgt : Int)) (hf : (if y < x then F1 else F2) = some o) (k1 : (y < x) → F1 = some o → G p l e R s m args below meth c D A nL Q wf kc ks (pc + 3) lo st w) (k2 : ¬ (y < x) → F2 = some o → G p l e R s m args below meth c D A nL Q wf kc ks tgt lo st w) : G p l e R s m args below meth c D A nL Q wf kc ks pc lo (.int y :: .int x :: st) w :=
  fun H locs ls hl hP hD hS => lv_icmp_le X.1 X.2.1 d ht (fun a => k2 (nle a) (hfn hf (nle a)) H locs ls hl hP hD hS) (fun a => k1 (nnl a) (hfp hf (nnl a)) H locs ls hl hP hD hS)
theorem g_lookup (X : gX p s m args meth c cc nL own D cI) {dflt : Int} {ps : Array (Int × Int)} {len : Nat} {x : Int32} {off : Int} {tgt : Nat} (d : decode cc pc = .ok (.lookupswitch dflt ps, len)) (hp : (ps.toList.zip (ps.toList.drop 1)).all (fun (a, next) => a.1 < next.1) = true) (ho : Op.lookupswitch.offset ps.toList dflt x.toInt = off) (ht : (pc : Int) + off = (tgt : Int)) (k : G p l e R s m args below meth c D A nL Q wf kc ks tgt lo st w) : G p l e R s m args below meth c D A nL Q wf kc ks pc lo (.int x :: st) w :=
  fun H locs ls hl hP hD hS => lv_lookup X.1 X.2.1 d hp ho ht (k H locs ls hl hP hD hS)
theorem g_tableIn (X : gX p s m args meth c cc nL own D cI) {dflt lw hi : Int} {offs : Array Int} {len : Nat} {x : Int32} {off : Int} {tgt : Nat} (d : decode cc pc = .ok (.tableswitch dflt lw hi offs, len)) (h1 : ¬ x.toInt < lw) (h2 : ¬ hi < x.toInt) (ho : offs[(x.toInt - lw).toNat]? = some off) (ht : (pc : Int) + off = (tgt : Int)) (k : G p l e R s m args below meth c D A nL Q wf kc ks tgt lo st w) : G p l e R s m args below meth c D A nL Q wf kc ks pc lo (.int x :: st) w :=
  fun H locs ls hl hP hD hS => lv_tableIn X.1 X.2.1 d h1 h2 ho ht (k H locs ls hl hP hD hS)
theorem g_tableOut (X : gX p s m args meth c cc nL own D cI) {dflt lw hi : Int} {offs : Array Int} {len : Nat} {x : Int32} {tgt : Nat} (d : decode cc pc = .ok (.tableswitch dflt lw hi offs, len)) (h : x.toInt < lw ∨ hi < x.toInt) (ht : (pc : Int) + dflt = (tgt : Int)) (k : G p l e R s m args below meth c D A nL Q wf kc ks tgt lo st w) : G p l e R s m args below meth c D A nL Q wf kc ks pc lo (.int x :: st) w :=
  fun H locs ls hl hP hD hS => lv_tableOut X.1 X.2.1 d h ht (k H locs ls hl hP hD hS)
/-- a class of the world's: its words, its fields -/
def gC (C : String) (T : u_T) (N : Nat) (ty0 : Nat → FieldType) : Prop := (∀ w ∈ u_ws C T N, w ∈ lw_g) ∧ (∀ k, k < N → parseFieldDescriptor (T k).2.2.1 = some (ty0 k)) ∧ (∀ a, a < N → ∀ b, b < N → a ≠ b → (T a).2.1 ≠ (T b).2.1)
theorem g_get (X : gX p s m args meth c cc nL own D cI) {C ref : String} {T : u_T} {ty0 : Nat → FieldType} {N ci index q0 a : Nat} {fs : List Value} {v : Value} (k0 : Nat) (d : decode cc pc = .ok (.getfield index, 3)) (hC : gC C T N ty0) (he : (wf w)[q0]? = some (a, .inr (ci, fs))) (hc : vwCl[ci]? = some (C, T, N)) (hk : k0 < N) (hw : Cond.fieldLink own index ref (T k0).2.1 (T k0).2.2.1 ∈ lw_g) (href : (T k0).1 = ref) (hv : fs[k0]? = some v) (k : G p l e R s m args below meth c D A nL Q wf kc ks (pc + 3) lo (v :: st) w) : G p l e R s m args below meth c D A nL Q wf kc ks pc lo (.ref a :: st) w :=
  fun H locs ls hl hP hD hS => va_get X.1 X.2.1 X.2.2.2.2.1 hC.1 X.2.2.2.1 X.2.2.2.2.2.1.1 hP q0 he hc k0 hk (X.2.2.2.2.1 _ hw) (fun _ h => href ▸ h) hv d (k H locs ls hl hP hD hS)
theorem g_put (X : gX p s m args meth c cc nL own D cI) {C ref : String} {T : u_T} {ty0 : Nat → FieldType} {N ci index q0 a : Nat} {fs : List Value} {v : Value} {w' : Wt} (k0 : Nat) (d : decode cc pc = .ok (.putfield index, 3)) (hC : gC C T N ty0) (he : (wf w)[q0]? = some (a, .inr (ci, fs))) (hc : vwCl[ci]? = some (C, T, N)) (hk : k0 < N) (hw : Cond.fieldLink own index ref (T k0).2.1 (T k0).2.2.1 ∈ lw_g) (href : (T k0).1 = ref) (hfin : (T k0).2.2.2 = false) (hn : narrow (ty0 k0) v = v) (hfit : fits (ty0 k0) v = true) (hl0 : k0 < fs.length) (hw' : (wf w).set q0 (a, .inr (ci, fs.set k0 v)) = wf w') (k : G p l e R s m args below meth c D A nL Q wf kc ks (pc + 3) lo st w') : G p l e R s m args below meth c D A nL Q wf kc ks pc lo (v :: .ref a :: st) w := by
  intro H locs ls hl hP hD hS
  refine va_put X.1 X.2.1 X.2.2.2.2.1 hC.1 ty0 hC.2.1 hC.2.2 X.2.2.2.1 X.2.2.2.2.2.1.1 hP hD hS q0 he hc k0 hk (X.2.2.2.2.1 _ hw) (fun _ h => href ▸ h) hfin (hC.2.1 k0 hk) hn hfit hl0 d (fun H1 locs1 hP1 hD1 hS1 => ?_)
  rw [hw'] at hP1 hD1
  exact k H1 locs1 ls hl hP1 hD1 hS1
theorem g_iald (X : gX p s m args meth c cc nL own D cI) {q0 a n : Nat} {f : Nat → Int32} {i : Int32} (d : decode cc pc = .ok (.iaload, 1)) (he : (wf w)[q0]? = some (a, .inl (cI.1, n, .inl f))) (hi : ib i n) (k : G p l e R s m args below meth c D A nL Q wf kc ks (pc + 1) lo (.int (f i.toNatClampNeg) :: st) w) : G p l e R s m args below meth c D A nL Q wf kc ks pc lo (.int i :: .ref a :: st) w :=
  fun H locs ls hl hP hD hS => va_iald X.1 X.2.1 X.2.2.2.2.2.1.1 hP q0 0 he rfl (ib_in hi) d (k H locs ls hl hP hD hS)
theorem g_iast (X : gX p s m args meth c cc nL own D cI) {q0 a n : Nat} {f : Nat → Int32} {i x : Int32} {w' : Wt} (d : decode cc pc = .ok (.iastore, 1)) (he : (wf w)[q0]? = some (a, .inl (cI.1, n, .inl f))) (hi : ib i n) (hw' : (wf w).set q0 (a, .inl (cI.1, n, .inl (upd f i.toNatClampNeg x))) = wf w') (k : G p l e R s m args below meth c D A nL Q wf kc ks (pc + 1) lo st w') : G p l e R s m args below meth c D A nL Q wf kc ks pc lo (.int x :: .int i :: .ref a :: st) w := by
  intro H locs ls hl hP hD hS
  refine va_iast X.1 X.2.1 X.2.2.2.2.2.1.1 hP hD hS q0 0 he rfl (ib_in hi) d (fun H1 locs1 hP1 hD1 hS1 => ?_)
  rw [hw'] at hP1 hD1
  exact k H1 locs1 ls hl hP1 hD1 hS1
theorem g_alen (X : gX p s m args meth c cc nL own D cI) {q0 a n : Nat} {f : Nat → Int32} {v : Int32} (d : decode cc pc = .ok (.arraylength, 1)) (he : (wf w)[q0]? = some (a, .inl (cI.1, n, .inl f))) (hv : Int32.ofNat n = v) (k : G p l e R s m args below meth c D A nL Q wf kc ks (pc + 1) lo (.int v :: st) w) : G p l e R s m args below meth c D A nL Q wf kc ks pc lo (.ref a :: st) w :=
  fun H locs ls hl hP hD hS => va_alen X.1 X.2.1 X.2.2.2.2.2.1.1 hP q0 0 he rfl hv d (k H locs ls hl hP hD hS)
theorem g_copy (X : gX p s m args meth c cc nL own D cI) {q0 q1 a0 a index n0 n1 : Nat} {f g : Nat → Int32} {sp dp n : Int32} {w' : Wt} (d : decode cc pc = .ok (.invokestatic index, 3)) (hw : (Cond.methodLink own index arraycopyName) ∈ lw_g) (hnat : Cond.native arraycopyName ∈ lw_g) (hst : Cond.static arraycopyName ∈ lw_g) (hini : Cond.initialized "java/lang/System" ∈ lw_g) (ha0 : (wf w)[q0]? = some (a0, .inl (cI.1, n0, .inl f))) (ha1 : (wf w)[q1]? = some (a, .inl (cI.1, n1, .inl g))) (h1 : ¬ sp < 0) (h2 : ¬ dp < 0) (h3 : ¬ n < 0) (h4 : sp.toNatClampNeg + n.toNatClampNeg ≤ n0) (h5 : dp.toNatClampNeg + n.toNatClampNeg ≤ n1) (hR : 1 ≤ R.frames ∧ (st.map fun v => v.category).sum + (nativeFrameWords "java/lang/System" "arraycopy" 5 + 11) ≤ R.locals) (hw' : (wf w).set q1 (a, .inl (cI.1, n1, .inl (va_cpy f g sp.toNatClampNeg dp.toNatClampNeg n.toNatClampNeg))) = wf w') (k : G p l e R s m args below meth c D A nL Q wf kc ks (pc + 3) lo st w') : G p l e R s m args below meth c D A nL Q wf kc ks pc lo (.int n :: .int dp :: .ref a :: .int sp :: .ref a0 :: st) w := by
  intro H locs ls hl hP hD hS
  refine va_copyi X.1 X.2.1 (X.2.2.1.trans hl.1.symm) X.2.2.2.1 (X.2.2.2.2.1 _ hw) (X.2.2.2.2.1 _ hnat) (X.2.2.2.2.1 _ hst) (X.2.2.2.2.1 _ hini) X.2.2.2.2.2.1.1 hP hD hS q0 q1 0 0 ha0 ha1 rfl rfl rfl h1 h2 h3 h4 h5 (fun _ _ => rfl) hR.1 hR.2 d (fun H1 locs1 hP1 hD1 hS1 => ?_)
  rw [hw'] at hP1 hD1
  exact k H1 locs1 ls hl hP1 hD1 hS1
theorem g_max (X : gX p s m args meth c cc nL own D cI) {index : Nat} {x y : Int32} (d : decode cc pc = .ok (.invokestatic index, 3)) (hw : (Cond.methodLink own index Lib.Math.max.name) ∈ lw_g) (hst : Cond.static Lib.Math.max.name ∈ lw_g) (hini : Cond.initialized "java/lang/Math" ∈ lw_g) (hcode : Cond.code Lib.Math.max.name Lib.Math.max.code 2 (some .int) ∈ lw_g) (hR : 1 ≤ R.frames ∧ (st.map fun v => v.category).sum + 13 ≤ R.locals) (hkc : kc ≤ R.cells ∧ ks ≤ R.slots) (k : G p l e R s m args below meth c D A nL Q wf kc ks (pc + 3) lo (.int (if x < y then y else x) :: st) w) : G p l e R s m args below meth c D A nL Q wf kc ks pc lo (.int y :: .int x :: st) w :=
  fun H locs ls hl hP hD hS => va_mmax X.1 X.2.1 (X.2.2.1.trans hl.1.symm) X.2.2.2.1 (X.2.2.2.2.1 _ hw) (X.2.2.2.2.1 _ hst) (X.2.2.2.2.1 _ hini) (X.2.2.2.2.1 _ hcode) hR.1 hR.2 hkc.1 hkc.2 d (k H locs ls hl hP hD hS)
def yV (y : MethodName) (C : String) (b : ByteArray) (nLc : Nat) (ret : Option FieldType) (n : Nat) : Prop := (Cond.instanceMethod y ∈ lw_g ∧ Cond.selects C y y ∈ lw_g ∧ Cond.initialized C ∈ lw_g ∧ Cond.code y b nLc ret ∈ lw_g) ∧ y.cls = C ∧ y.cls ≠ "java/lang/invoke/MethodHandle" ∧ y.cls ≠ "java/lang/invoke/VarHandle" ∧ (parseMethodDescriptor y.desc).map (fun d => d.parameters.length) = some n
def yS (y : MethodName) (b : ByteArray) (nLc : Nat) (ret : Option FieldType) (n : Nat) : Prop := (Cond.static y ∈ lw_g ∧ Cond.initialized y.cls ∈ lw_g ∧ Cond.code y b nLc ret ∈ lw_g) ∧ y.cls ≠ "java/lang/invoke/MethodHandle" ∧ y.cls ≠ "java/lang/invoke/VarHandle" ∧ (parseMethodDescriptor y.desc).map (fun d => d.parameters.length) = some n
theorem gd_V {y : MethodName} {C : String} {b : ByteArray} {nLc : Nat} {ret : Option FieldType} {n idx : Nat} {own : String} (h : yV y C b nLc ret n) (hw : Cond.methodLink own idx y ∈ lw_g) : GoodIn lw_g (wsV own idx C y (.code y b nLc ret :: lw_g)) := by
  refine gi_g (fun _ h => h) (fun w hw1 => ?_)
  unfold wsV at hw1
  simp only [List.cons_append, List.nil_append, List.mem_cons] at hw1
  obtain ⟨⟨h1, h2, h3, h4⟩, -⟩ := h
  rcases hw1 with rfl | rfl | rfl | rfl | rfl | q
  · exact hw
  · exact h1
  · exact h2
  · exact h3
  · exact h4
  · exact q
theorem gd_S {y : MethodName} {b : ByteArray} {nLc : Nat} {ret : Option FieldType} {n idx : Nat} {own : String} (h : yS y b nLc ret n) (hw : Cond.methodLink own idx y ∈ lw_g) : GoodIn lw_g (va_wsS own idx y (.code y b nLc ret :: lw_g)) := by
  refine gi_g (fun _ h => h) (fun w hw1 => ?_)
  unfold va_wsS at hw1
  simp only [List.cons_append, List.nil_append, List.mem_cons] at hw1
  obtain ⟨⟨h1, h2, h3⟩, -⟩ := h
  rcases hw1 with rfl | rfl | rfl | rfl | q
  · exact hw
  · exact h1
  · exact h2
  · exact h3
  · exact q
theorem gd_N {y : MethodName} {b : ByteArray} {nLc : Nat} {ret : Option FieldType} {n : Nat} (h : yS y b nLc ret n) : GoodIn lw_g (.code y b nLc ret :: lw_g) := by
  refine gi_g (fun _ h => h) (fun w hw1 => ?_)
  rcases List.mem_cons.mp hw1 with rfl | q
  · exact h.1.2.2
  · exact q
theorem g_Vi (X : gX p s m args meth c cc nL own D cI) {y : MethodName} {b : ByteArray} {nLc n idx q0 ci a N : Nat} {ret : Option FieldType} {rm : Room} {C : String} {T : u_T} {fs As st rest : List Value} {r : Int32} {w1 : Wt} (hM : CTi l D cI A y b nLc ret rm (.ref a :: As) (wf w) r (wf w1)) (d : decode cc pc = .ok (.invokevirtual idx, 3)) (hw : Cond.methodLink own idx y ∈ lw_g) (hy : yV y C b nLc ret n) (he : (wf w)[q0]? = some (a, .inr (ci, fs))) (hc : vwCl[ci]? = some (C, T, N)) (hst : st = As.reverse ++ .ref a :: rest) (hn : As.length = n) (hR : rm.frames + 1 ≤ R.frames ∧ 8 + (nLc + 11) + rm.locals ≤ R.locals) (hrc : rm.cells = 0 ∧ rm.slots = 0) (hcat : (rest.map fun v => v.category).sum ≤ 8) (hkc : kc + 0 ≤ R.cells ∧ ks + 0 ≤ R.slots) (k : G p l e R s m args below meth c D A nL Q wf kc ks (pc + 3) lo (.int r :: rest) w1) : G p l e R s m args below meth c D A nL Q wf kc ks pc lo st w := by
  intro H locs ls hl hP hD hS
  refine va_calli (va_runV (As := As) (rest := rest) ⟨X.1, X.2.1, X.2.2.1, X.2.2.2.1, X.2.2.2.2.1⟩ hM (cwV n X.2.2.2.2.1 (gd_V hy hw) rfl hrc.1 hrc.2 hy.2 hR) ⟨gB_blind, va_recv X.2.2.2.2.2.1.1 hP hc he, fun U hU hW => ⟨rfl, by rw [hU]; exact hP, X.2.2.2.2.2.1.warm hW, hD⟩⟩ rfl hn hl.1 hst (lv_room hcat) d hkc) hS (fun _ _ h => h) (fun _ h => h)
    (fun r1 u t H1 locs1 ht hvm hpost hB hz hk hS1 => ?_)
  cases hpost
  exact k H1 locs1 ls hl (by rw [← ht]; exact hB.1) hB.2 hS1
theorem g_Si (X : gX p s m args meth c cc nL own D cI) {y : MethodName} {b : ByteArray} {nLc n idx : Nat} {ret : Option FieldType} {rm : Room} {As st rest : List Value} {r : Int32} {w1 : Wt} (hM : CTi l D cI A y b nLc ret rm As (wf w) r (wf w1)) (d : decode cc pc = .ok (.invokestatic idx, 3)) (hw : Cond.methodLink own idx y ∈ lw_g) (hy : yS y b nLc ret n) (hst : st = As.reverse ++ rest) (hn : As.length = n) (hR : rm.frames + 1 ≤ R.frames ∧ 8 + (nLc + 11) + rm.locals ≤ R.locals) (hrc : rm.cells = 0 ∧ rm.slots = 0) (hcat : (rest.map fun v => v.category).sum ≤ 8) (hkc : kc + 0 ≤ R.cells ∧ ks + 0 ≤ R.slots) (k : G p l e R s m args below meth c D A nL Q wf kc ks (pc + 3) lo (.int r :: rest) w1) : G p l e R s m args below meth c D A nL Q wf kc ks pc lo st w := by
  intro H locs ls hl hP hD hS
  refine va_calli (va_runS (As := As) (rest := rest) ⟨X.1, X.2.1, X.2.2.1, X.2.2.2.1, X.2.2.2.2.1⟩ hM (va_cwS n X.2.2.2.2.1 (gd_S hy hw) rfl hrc.1 hrc.2 hy.2 hR) ⟨gB_blind, fun U hU hW => ⟨rfl, by rw [hU]; exact hP, X.2.2.2.2.2.1.warm hW, hD⟩⟩ rfl hn hl.1 hst (lv_room hcat) d hkc) hS (fun _ _ h => h) (fun _ h => h)
    (fun r1 u t H1 locs1 ht hvm hpost hB hz hk hS1 => ?_)
  cases hpost
  exact k H1 locs1 ls hl (by rw [← ht]; exact hB.1) hB.2 hS1
theorem g_Ni (X : gX p s m args meth c cc nL own D cI) {y : MethodName} {b : ByteArray} {nLc n idx : Nat} {host : String} {ret : Option FieldType} {rm : Room} {As st rest : List Value} {r : Int32} {w1 : Wt} (hM : CTi l D cI A y b nLc ret rm As (wf w) r (wf w1)) (d : decode cc pc = .ok (.invokestatic idx, 3)) (hw : (own, idx, y, host) ∈ nsts) (hy : yS y b nLc ret n) (hst : st = As.reverse ++ rest) (hn : As.length = n) (hR : rm.frames + 1 ≤ R.frames ∧ 8 + (nLc + 11) + rm.locals ≤ R.locals) (hrc : rm.cells = 0 ∧ rm.slots = 0) (hcat : (rest.map fun v => v.category).sum ≤ 8) (hkc : kc + 0 ≤ R.cells ∧ ks + 0 ≤ R.slots) (k : G p l e R s m args below meth c D A nL Q wf kc ks (pc + 3) lo (.int r :: rest) w1) : G p l e R s m args below meth c D A nL Q wf kc ks pc lo st w := by
  intro H locs ls hl hP hD hS
  refine va_calli (va_runSN (As := As) (rest := rest) ⟨X.1, X.2.1, X.2.2.1, X.2.2.2.1, X.2.2.2.2.1⟩ hM ⟨va_cnB n X.2.2.2.2.1 (gd_N hy) rfl hrc.1 hrc.2 (X.2.2.2.2.2.1.2.1 _ hw) (X.2.2.2.2.1 _ hy.1.2.1) hy.2 hR, X.2.2.2.2.1 _ hy.1.1, trivial⟩ ⟨gB_blind, fun U hU hW => ⟨rfl, by rw [hU]; exact hP, X.2.2.2.2.2.1.warm hW, hD⟩⟩ rfl hn hl.1 hst (lv_room hcat) d hkc) hS (fun _ _ h => h) (fun _ h => h)
    (fun r1 u t H1 locs1 ht hvm hpost hB hz hk hS1 => ?_)
  cases hpost
  exact k H1 locs1 ls hl (by rw [← ht]; exact hB.1) hB.2 hS1
theorem g_Vv (X : gX p s m args meth c cc nL own D cI) {y : MethodName} {b : ByteArray} {nLc n idx q0 ci a N : Nat} {ret : Option FieldType} {rm : Room} {C : String} {T : u_T} {fs As st rest : List Value} {w1 : Wt} (hM : CTv l D cI A y b nLc ret rm (.ref a :: As) (wf w) (wf w1)) (d : decode cc pc = .ok (.invokevirtual idx, 3)) (hw : Cond.methodLink own idx y ∈ lw_g) (hy : yV y C b nLc ret n) (he : (wf w)[q0]? = some (a, .inr (ci, fs))) (hc : vwCl[ci]? = some (C, T, N)) (hst : st = As.reverse ++ .ref a :: rest) (hn : As.length = n) (hR : rm.frames + 1 ≤ R.frames ∧ 8 + (nLc + 11) + rm.locals ≤ R.locals) (hrc : rm.cells = 0 ∧ rm.slots = 0) (hcat : (rest.map fun v => v.category).sum ≤ 8) (hkc : kc + 0 ≤ R.cells ∧ ks + 0 ≤ R.slots) (k : G p l e R s m args below meth c D A nL Q wf kc ks (pc + 3) lo (rest) w1) : G p l e R s m args below meth c D A nL Q wf kc ks pc lo st w := by
  intro H locs ls hl hP hD hS
  refine va_callv (va_runV (As := As) (rest := rest) ⟨X.1, X.2.1, X.2.2.1, X.2.2.2.1, X.2.2.2.2.1⟩ hM (cwV n X.2.2.2.2.1 (gd_V hy hw) rfl hrc.1 hrc.2 hy.2 hR) ⟨gB_blind, va_recv X.2.2.2.2.2.1.1 hP hc he, fun U hU hW => ⟨rfl, by rw [hU]; exact hP, X.2.2.2.2.2.1.warm hW, hD⟩⟩ rfl hn hl.1 hst (lv_room hcat) d hkc) hS (fun _ _ h => h) (fun _ h => h)
    (fun u t H1 locs1 ht hvm hpost hB hz hk hS1 => ?_)
  exact k H1 locs1 ls hl (by rw [← ht]; exact hB.1) hB.2 hS1
theorem g_Sv (X : gX p s m args meth c cc nL own D cI) {y : MethodName} {b : ByteArray} {nLc n idx : Nat} {ret : Option FieldType} {rm : Room} {As st rest : List Value} {w1 : Wt} (hM : CTv l D cI A y b nLc ret rm As (wf w) (wf w1)) (d : decode cc pc = .ok (.invokestatic idx, 3)) (hw : Cond.methodLink own idx y ∈ lw_g) (hy : yS y b nLc ret n) (hst : st = As.reverse ++ rest) (hn : As.length = n) (hR : rm.frames + 1 ≤ R.frames ∧ 8 + (nLc + 11) + rm.locals ≤ R.locals) (hrc : rm.cells = 0 ∧ rm.slots = 0) (hcat : (rest.map fun v => v.category).sum ≤ 8) (hkc : kc + 0 ≤ R.cells ∧ ks + 0 ≤ R.slots) (k : G p l e R s m args below meth c D A nL Q wf kc ks (pc + 3) lo (rest) w1) : G p l e R s m args below meth c D A nL Q wf kc ks pc lo st w := by
  intro H locs ls hl hP hD hS
  refine va_callv (va_runS (As := As) (rest := rest) ⟨X.1, X.2.1, X.2.2.1, X.2.2.2.1, X.2.2.2.2.1⟩ hM (va_cwS n X.2.2.2.2.1 (gd_S hy hw) rfl hrc.1 hrc.2 hy.2 hR) ⟨gB_blind, fun U hU hW => ⟨rfl, by rw [hU]; exact hP, X.2.2.2.2.2.1.warm hW, hD⟩⟩ rfl hn hl.1 hst (lv_room hcat) d hkc) hS (fun _ _ h => h) (fun _ h => h)
    (fun u t H1 locs1 ht hvm hpost hB hz hk hS1 => ?_)
  exact k H1 locs1 ls hl (by rw [← ht]; exact hB.1) hB.2 hS1
theorem g_Nv (X : gX p s m args meth c cc nL own D cI) {y : MethodName} {b : ByteArray} {nLc n idx : Nat} {host : String} {ret : Option FieldType} {rm : Room} {As st rest : List Value} {w1 : Wt} (hM : CTv l D cI A y b nLc ret rm As (wf w) (wf w1)) (d : decode cc pc = .ok (.invokestatic idx, 3)) (hw : (own, idx, y, host) ∈ nsts) (hy : yS y b nLc ret n) (hst : st = As.reverse ++ rest) (hn : As.length = n) (hR : rm.frames + 1 ≤ R.frames ∧ 8 + (nLc + 11) + rm.locals ≤ R.locals) (hrc : rm.cells = 0 ∧ rm.slots = 0) (hcat : (rest.map fun v => v.category).sum ≤ 8) (hkc : kc + 0 ≤ R.cells ∧ ks + 0 ≤ R.slots) (k : G p l e R s m args below meth c D A nL Q wf kc ks (pc + 3) lo (rest) w1) : G p l e R s m args below meth c D A nL Q wf kc ks pc lo st w := by
  intro H locs ls hl hP hD hS
  refine va_callv (va_runSN (As := As) (rest := rest) ⟨X.1, X.2.1, X.2.2.1, X.2.2.2.1, X.2.2.2.2.1⟩ hM ⟨va_cnB n X.2.2.2.2.1 (gd_N hy) rfl hrc.1 hrc.2 (X.2.2.2.2.2.1.2.1 _ hw) (X.2.2.2.2.1 _ hy.1.2.1) hy.2 hR, X.2.2.2.2.1 _ hy.1.1, trivial⟩ ⟨gB_blind, fun U hU hW => ⟨rfl, by rw [hU]; exact hP, X.2.2.2.2.2.1.warm hW, hD⟩⟩ rfl hn hl.1 hst (lv_room hcat) d hkc) hS (fun _ _ h => h) (fun _ h => h)
    (fun u t H1 locs1 ht hvm hpost hB hz hk hS1 => ?_)
  exact k H1 locs1 ls hl (by rw [← ht]; exact hB.1) hB.2 hS1
theorem g_iret (X : gX p s m args meth c cc nL own D cI) (hr : meth.sig.returnType = some .int) {x : Int32} {o : Int32 × Wt} (d : decode cc pc = .ok (.ireturn, 1)) (hf : some (x, w) = some o) : G p l e R s m args below meth c D A nL (MQ below (qcI D A o.1 (wf o.2)) args s kc ks A) wf kc ks pc lo [.int x] w := by
  cases hf
  intro H locs ls hl hP hD hS
  exact W.iret X.1 X.2.1 hr (fun t ht hW => ⟨⟨x, (), rfl, rfl, by rw [ht]; exact hP, hD⟩, hS.F ht⟩) hS.2.2 d X.2.2.2.2.2.2
theorem g_zret (X : gX p s m args meth c cc nL own D cI) (hr : meth.sig.returnType = some .boolean) {x : Int32} {o : Int32 × Wt} (d : decode cc pc = .ok (.ireturn, 1)) (hn : narrow .boolean (.int x) = .int x) (hf : some (x, w) = some o) : G p l e R s m args below meth c D A nL (MQ below (qcI D A o.1 (wf o.2)) args s kc ks A) wf kc ks pc lo [.int x] w := by
  cases hf
  intro H locs ls hl hP hD hS
  exact W.zret X.1 X.2.1 hr hn (fun t ht hW => ⟨⟨x, (), rfl, rfl, by rw [ht]; exact hP, hD⟩, hS.F ht⟩) hS.2.2 d X.2.2.2.2.2.2
theorem g_vret (X : gX p s m args meth c cc nL own D cI) (hr : meth.sig.returnType = none) {x : Int32} {o : Int32 × Wt} (d : decode cc pc = .ok (.return_, 1)) (hf : some (x, w) = some o) : G p l e R s m args below meth c D A nL (MQ below (qcV D A (wf o.2)) args s kc ks A) wf kc ks pc lo [] w := by
  cases hf
  intro H locs ls hl hP hD hS
  exact W.vret X.1 X.2.1 hr (fun t ht hW => ⟨⟨(), rfl, trivial, by rw [ht]; exact hP, hD⟩, hS.F ht⟩) hS.2.2 d X.2.2.2.2.2.2
theorem zb {x : Int32} (h : x = 0 ∨ x = 1) : narrow .boolean (.int x) = .int x := by rcases h with rfl | rfl <;> rfl
end GG
