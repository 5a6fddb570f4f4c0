/-! MAKING: worlds as lists that grow -/
abbrev wI : va_W → va_W := fun w => w
theorem arr_int : Cond.arrayClass .int ∈ lw_g := tb1 47 rfl
theorem in_obj : Cond.instanceMethod objectInit ∈ lw_g := tb1 18 rfl
theorem co_obj : Cond.code objectInit ⟨#[0xb1]⟩ 1 none ∈ lw_g := tb1 19 rfl
def bN (D : va_G) (cI : ClassId × ClassId) (h0 : Nat) (e0 : va_E) (sz : Nat) (U : State) : Prop := U.heap.size = sz ∧ va_P D vwCl [(h0, e0)] U.heap ∧ gK D cI U
def qcN (D : va_G) (A : Nat → Prop) (F : (Nat → Nat) → va_W) : Array Value → State → Outcome → State → Prop := va_Qv (fun (_ : Unit) => True) (fun _ t => ∃ qs, va_P D vwCl (F qs) t.heap ∧ va_D A (F qs)) A
/-- a constructor's contract: from the fresh object at h0 it comes to the world F qs, for some new cells qs; mc cells of ms slots come -/
def CTn (l : Launch) (D : va_G) (cI : ClassId × ClassId) (y : MethodName) (b : ByteArray) (nL : Nat) (rm : Room) (mc ms h0 : Nat) (e0 : va_E) (F : (Nat → Nat) → va_W) : Prop :=
  ∀ sz : Nat, Met l y (.code y b nL none :: lw_g) rm (va_Pc [.ref h0] (bN D cI h0 e0 sz)) (qcN D (va_A [(h0, e0)] sz) F) mc ms (va_A [(h0, e0)] sz)
theorem bN_blind {D : va_G} {cI : ClassId × ClassId} {h0 : Nat} {e0 : va_E} {sz : Nat} : FrameBlind (va_Pc [.ref h0] (bN D cI h0 e0 sz)) := fun a U g mk q => ⟨q.1, q.2.1, q.2.2.1, gK.blind q.2.2.2⟩
def yI (y : MethodName) (b : ByteArray) (nLc : Nat) : Prop := (Cond.instanceMethod y ∈ lw_g ∧ Cond.initialized y.cls ∈ lw_g ∧ Cond.code y b nLc none ∈ lw_g) ∧ y.name = "<init>" ∧ y.cls ≠ "java/lang/invoke/MethodHandle" ∧ y.cls ≠ "java/lang/invoke/VarHandle" ∧ (parseMethodDescriptor y.desc).map (fun d => d.parameters.length) = some 0
theorem gd_I {y : MethodName} {b : ByteArray} {nLc : Nat} (h : yI y b nLc) : GoodIn lw_g (.code y b nLc none :: lw_g) := by
  refine gi_g (fun _ h => h) (fun w hw1 => ?_)
  rcases List.mem_cons.mp hw1 with rfl | q
  · exact h.1.2.2
  · exact q
section MK
variable {p : Program} {l : Launch} {e : Env} {R : Room} {s : State} {m : MethodId} {args : Array Value} {below : List Frame} {meth : Method} {c : Code} {D : va_G} {A : Nat → Prop} {nL : Nat} {Q : State → Prop} {kc ks : Nat} {cc : ByteArray} {own : String} {cI : ClassId × ClassId} {pc : Nat} {lo : List (Option Value)} {st : List Value} {w : va_W}
theorem CTn.of {y : MethodName} {b : ByteArray} {rm : Room} {mc ms h0 : Nat} {e0 : va_E} {F : (Nat → Nat) → va_W} (hpl : plainName y.cls = true) (hyn : y.name = "<init>") (hn : 1 ≤ nL)
    (h : ∀ (p : Program) (e : Env) (s : State) (m : MethodId) (args : Array Value) (below : List Frame) (meth : Method) (c : Code) (A : Nat → Prop), gX p s m args meth c b nL y.cls D cI → meth.sig.returnType = none → meth.name = "<init>" → (∀ q, s.heap.size ≤ q → A q) → G p l e rm s m args below meth c D A nL (MQ below (qcN D A F) args s mc ms A) wI 0 0 0 (lo0 nL [.ref h0]) [] [(h0, e0)]) : CTn l D cI y b nL rm mc ms h0 e0 F := by
  intro sz
  refine Met.ofW (cc := b) (maxL := nL) (ret := none) hpl rfl ?_
  intro p e s m args below meth c s₁ B hml hv
  obtain ⟨rfl, rfl, hP, hK⟩ := hv
  have hts := atoms_spec (ws := .code y b nL none :: lw_g) B.pre
  have hx : gX p s m #[.ref h0] meth c b nL y.cls D cI := ⟨B.exec, B.bytes, hml, findClass_of_methodNamed B.named, fun w hw => hts w (List.mem_cons_of_mem _ hw), hK, B.notSynchronized⟩
  rw [lg_entry_eq]
  have hD : va_D (va_A [(h0, e0)] s.heap.size) [(h0, e0)] := by
    refine ⟨fun i j p q hi hj _ => ?_, fun k q hk => va_A.in hk⟩
    have h1 : i < 1 := (List.getElem?_eq_some_iff.mp hi).1
    have h2 : j < 1 := (List.getElem?_eq_some_iff.mp hj).1
    omega
  exact h p e s m _ below meth c _ hx B.returns ((name_of_methodNamed B.named B.method).1.trans hyn) (fun q hq => Or.inr hq) _ _ _ (lo_entry (As := [.ref h0]) rfl hn) hP hD va_S.rf
theorem g_objI (X : gX p s m args meth c cc nL own D cI) {idx a : Nat} (d : decode cc pc = .ok (.invokespecial idx, 3)) (hw : Cond.methodLink own idx objectInit ∈ lw_g) (hR : 1 ≤ R.frames ∧ (st.map fun v => v.category).sum + 12 ≤ R.locals) (k : G p l e R s m args below meth c D A nL Q wI kc ks (pc + 3) lo st w) : G p l e R s m args below meth c D A nL Q wI kc ks pc lo (.ref a :: st) w := by
  intro H locs ls hl hP hD hS
  refine W.objInit X.1 X.2.1 X.2.2.2.1 (X.2.2.2.2.1 _ hw) (X.2.2.2.2.1 _ in_obj) (X.2.2.2.2.1 _ co_obj) rfl (by rw [X.2.2.1]; exact hl.1) rfl d hR.1 (by show 2 * 0 + _ + 12 ≤ _; omega) ?_
  exact k H locs ls hl hP hD hS
theorem g_new (X : gX p s m args meth c cc nL own D cI) (hA : ∀ q, s.heap.size ≤ q → A q) {C : String} {T : u_T} {ty0 : Nat → FieldType} {N ci index : Nat} {fs : List Value} (d : decode cc pc = .ok (.new index, 3)) (hC : gC C T N ty0) (hcl : Cond.classLink own index C ∈ lw_g) (hinst : Cond.instantiable C N ∈ lw_g) (hini : Cond.initialized C ∈ lw_g) (hc : vwCl[ci]? = some (C, T, N)) (hfs : ∀ j, j < N → defaultValue (ty0 j) = vp_V fs j) (hkc : kc + 1 ≤ R.cells ∧ ks + N ≤ R.slots) (k : ∀ q : Nat, G p l e R s m args below meth c D A nL Q wI (kc + 1) (ks + N) (pc + 3) lo (.ref q :: st) (w ++ [(q, .inr (ci, fs))])) : G p l e R s m args below meth c D A nL Q wI kc ks pc lo st w :=
  fun H locs ls hl hP hD hS => va_new X.1 X.2.1 X.2.2.2.2.1 hC.1 ty0 hC.2.1 X.2.2.2.1 (X.2.2.2.2.1 _ hcl) (X.2.2.2.2.1 _ hinst) (X.2.2.2.2.1 _ hini) X.2.2.2.2.2.1.1 hP hD hS hA hc hfs hkc.1 hkc.2 d (fun q H1 hP1 hD1 hS1 => k q H1 locs ls hl hP1 hD1 hS1)
theorem g_newa (X : gX p s m args meth c cc nL own D cI) (hA : ∀ q, s.heap.size ≤ q → A q) {n : Int32} (N' : Nat) (d : decode cc pc = .ok (.newarray .int, 2)) (hn : ¬ n < 0) (hN : n.toNatClampNeg = N') (hb4 : N' * 4 ≤ 536870912) (hkc : kc + 1 ≤ R.cells ∧ ks + N' ≤ R.slots) (k : ∀ q : Nat, G p l e R s m args below meth c D A nL Q wI (kc + 1) (ks + N') (pc + 2) lo (.ref q :: st) (w ++ [(q, .inl (cI.1, N', .inl (fun _ => 0)))])) : G p l e R s m args below meth c D A nL Q wI kc ks pc lo (.int n :: st) w := by
  intro H locs ls hl hP hD hS
  refine va_newa (atype := .int) X.1 X.2.1 (X.2.2.2.2.1 _ arr_int) (ty := .int) rfl X.2.2.2.2.2.1.1 hP hD hS hA (n := n) (N' := N') (a0 := (N', .inl (fun _ => 0))) (fun _ => rfl) hn hN hb4 hkc.1 hkc.2 d (fun q cA H1 hK1 hP1 hD1 hS1 => ?_)
  have h1 : s.vm.findClass ("[" ++ (FieldType.int).toString) = some cI.1 := (hK1.2 0 _ rfl).2
  have h2 : s.vm.findClass ("[" ++ (FieldType.int).toString) = some cA := (hK1.2 2 _ rfl).2
  have h3 : cA = cI.1 := Option.some.inj (h2.symm.trans h1)
  subst h3
  exact k q H1 locs ls hl hP1 hD1 hS1
theorem g_newq (X : gX p s m args meth c cc nL own D cI) (hA : ∀ q, s.heap.size ≤ q → A q) {n : Int32} {index : Nat} (N' : Nat) (d : decode cc pc = .ok (.anewarray index, 3)) (hcl : Cond.classLink own index "ReachedHeap$State" ∈ lw_g) (hn : ¬ n < 0) (hN : n.toNatClampNeg = N') (hb4 : N' * 4 ≤ 536870912) (hkc : kc + 1 ≤ R.cells ∧ ks + N' ≤ R.slots) (k : ∀ q : Nat, G p l e R s m args below meth c D A nL Q wI (kc + 1) (ks + N') (pc + 3) lo (.ref q :: st) (w ++ [(q, .inl (cI.2, N', .inr (.inr (.inr (.inr (fun _ => none))))))])) : G p l e R s m args below meth c D A nL Q wI kc ks pc lo (.int n :: st) w := by
  intro H locs ls hl hP hD hS
  refine va_newq X.1 X.2.1 X.2.2.2.1 (X.2.2.2.2.1 _ hcl) X.2.2.2.2.2.1.2.2 X.2.2.2.2.2.1.1 hP hD hS hA (n := n) (N' := N') hn hN hb4 hkc.1 hkc.2 d (fun q cA H1 hK1 hP1 hD1 hS1 => ?_)
  obtain ⟨_, _, -, -, -, h1⟩ := (hK1.2 1 _ rfl).2
  obtain ⟨_, _, -, -, -, h2⟩ := (hK1.2 2 _ rfl).2
  have h3 : cA = cI.2 := Option.some.inj (h2.symm.trans h1)
  subst h3
  exact k q H1 locs ls hl hP1 hD1 hS1
theorem g_putF (X : gX p s m args meth c cc nL own D cI) (hin : meth.name = "<init>") {C ref : String} {T : u_T} {ty0 : Nat → FieldType} {N ci index q0 a : Nat} {fs : List Value} {v : Value} {w' : va_W} (k0 : Nat) (d : decode cc pc = .ok (.putfield index, 3)) (hC : gC C T N ty0) (he : w[q0]? = some (a, .inr (ci, fs))) (hc : vwCl[ci]? = some (C, T, N)) (hk : k0 < N) (hw : Cond.fieldLink own index ref (T k0).2.1 (T k0).2.2.1 ∈ lw_g) (href : (T k0).1 = ref) (hfin : (T k0).2.2.2 = true) (hdecl : (T k0).1 = own) (hn : narrow (ty0 k0) v = v) (hfit : fits (ty0 k0) v = true) (hl0 : k0 < fs.length) (hw' : w.set q0 (a, .inr (ci, fs.set k0 v)) = w') (k : G p l e R s m args below meth c D A nL Q wI kc ks (pc + 3) lo st w') : G p l e R s m args below meth c D A nL Q wI kc ks pc lo (v :: .ref a :: st) w := by
  intro H locs ls hl hP hD hS
  refine va_putF X.1 X.2.1 X.2.2.2.2.1 hC.1 ty0 hC.2.1 hC.2.2 X.2.2.2.1 X.2.2.2.2.2.1.1 hP hD hS q0 he hc k0 hk (X.2.2.2.2.1 _ hw) (fun _ h => href ▸ h) hfin hin hdecl (hC.2.1 k0 hk) hn hfit hl0 d (fun H1 locs1 hP1 hD1 hS1 => ?_)
  have hP1 : va_P D vwCl (w.set q0 (a, .inr (ci, fs.set k0 v))) H1 := hP1
  have hD1 : va_D A (w.set q0 (a, .inr (ci, fs.set k0 v))) := hD1
  rw [hw'] at hP1 hD1
  exact k H1 locs1 ls hl hP1 hD1 hS1
theorem g_astq (X : gX p s m args meth c cc nL own D cI) {q0 qk a v n ci : Nat} {T : u_T} {N : Nat} {f : Nat → Option Nat} {i : Int32} {vs : List Value} {w' : va_W} (d : decode cc pc = .ok (.aastore, 1)) (he : w[q0]? = some (a, .inl (cI.2, n, .inr (.inr (.inr (.inr f)))))) (hv : w[qk]? = some (v, .inr (ci, vs))) (hc : vwCl[ci]? = some ("ReachedHeap$State", T, N)) (hi : ib i n) (hw' : w.set q0 (a, .inl (cI.2, n, .inr (.inr (.inr (.inr (va_up f i.toNatClampNeg (some v))))))) = w') (k : G p l e R s m args below meth c D A nL Q wI kc ks (pc + 1) lo st w') : G p l e R s m args below meth c D A nL Q wI kc ks pc lo (.ref v :: .int i :: .ref a :: st) w := by
  intro H locs ls hl hP hD hS
  refine va_astq X.1 X.2.1 X.2.2.2.2.2.1.1 hP hD hS q0 1 qk ci he rfl hv hc (ib_in hi) d (fun H1 locs1 hP1 hD1 hS1 => ?_)
  have hP1 : va_P D vwCl (w.set q0 (a, .inl (cI.2, n, .inr (.inr (.inr (.inr (va_up f i.toNatClampNeg (some v)))))))) H1 := hP1
  have hD1 : va_D A (w.set q0 (a, .inl (cI.2, n, .inr (.inr (.inr (.inr (va_up f i.toNatClampNeg (some v)))))))) := hD1
  rw [hw'] at hP1 hD1
  exact k H1 locs1 ls hl hP1 hD1 hS1
theorem ctor_join {H H1 : Heap} {h0 : Nat} {e0 : va_E} {F : va_W} (hP : va_P D vwCl (w ++ [(h0, e0)]) H) (hD : va_D A (w ++ [(h0, e0)])) (hF : ∀ q, va_A [(h0, e0)] H.size q → A q) (hk : ∀ q : Nat, q < H.size → ¬ va_A [(h0, e0)] H.size q → H1[q]? = H[q]?) (hP1 : va_P D vwCl F H1) (hD1 : va_D (va_A [(h0, e0)] H.size) F) : va_P D vwCl (w ++ F) H1 ∧ va_D A (w ++ F) := by
  have hPi := va_P_iff.mp hP
  obtain ⟨hn, hAll⟩ := va_D_iff.mp hD
  obtain ⟨hn1, hAll1⟩ := va_D_iff.mp hD1
  rw [List.map_append, List.nodup_append] at hn
  have out : ∀ q ∈ w, ¬ va_A [(h0, e0)] H.size q.1 := by
    rintro q hq (⟨k, x, hx⟩ | h)
    · have h2 : (q.1, x) ∈ [(h0, e0)] := List.mem_of_getElem? hx
      rw [List.mem_singleton] at h2
      have h3 : q.1 = h0 := congrArg Prod.fst h2
      exact hn.2.2 q.1 (List.mem_map_of_mem hq) h0 (by simp) h3
    · have := (hPi q (List.mem_append_left _ hq)).lt
      omega
  refine ⟨va_P_iff.mpr (fun q hq => ?_), va_D_iff.mpr ⟨?_, fun q hq => ?_⟩⟩
  · rcases List.mem_append.mp hq with h | h
    · have h1 := hPi q (List.mem_append_left _ h)
      exact h1.kept (hk q.1 h1.lt (out q h))
    · exact va_P_iff.mp hP1 q h
  · rw [List.map_append, List.nodup_append]
    refine ⟨hn.1, hn1, fun a ha b hb e => ?_⟩
    obtain ⟨x, hx, rfl⟩ := List.mem_map.mp ha
    obtain ⟨z, hz, rfl⟩ := List.mem_map.mp hb
    exact out x hx (e ▸ hAll1 z hz)
  · rcases List.mem_append.mp hq with h | h
    · exact hAll q (List.mem_append_left _ h)
    · exact hF _ (hAll1 q h)
theorem ctor_free {H : Heap} {locs : List Loc} {h0 : Nat} {e0 : va_E} (hA : ∀ q, s.heap.size ≤ q → A q) (hD : va_D A (w ++ [(h0, e0)])) (hS : va_S A s.heap H locs) : ∀ q, va_A [(h0, e0)] H.size q → A q := by
  rintro q (⟨k, x, hx⟩ | h)
  · have h2 : (q, x) ∈ [(h0, e0)] := List.mem_of_getElem? hx
    rw [List.mem_singleton] at h2
    have h3 : q = h0 := congrArg Prod.fst h2
    subst h3
    exact (va_D_iff.mp hD).2 (q, e0) (by simp)
  · exact hA q (Nat.le_trans hS.1 h)
theorem g_ctor (X : gX p s m args meth c cc nL own D cI) (hA : ∀ q, s.heap.size ≤ q → A q) {y : MethodName} {b : ByteArray} {nLc idx mc ms h0 : Nat} {rm : Room} {e0 : va_E} {F : (Nat → Nat) → va_W} {rest : List Value} (hM : CTn l D cI y b nLc rm mc ms h0 e0 F) (d : decode cc pc = .ok (.invokespecial idx, 3)) (hw : Cond.methodLink own idx y ∈ lw_g) (hy : yI y b nLc) (hR : rm.frames + 1 ≤ R.frames ∧ 8 + (nLc + 11) + rm.locals ≤ R.locals) (hrc : rm.cells = mc ∧ rm.slots = ms) (hcat : (rest.map fun v => v.category).sum ≤ 8) (hkc : kc + mc ≤ R.cells ∧ ks + ms ≤ R.slots) (k : ∀ qs, G p l e R s m args below meth c D A nL Q wI (kc + mc) (ks + ms) (pc + 3) lo rest (w ++ F qs)) : G p l e R s m args below meth c D A nL Q wI kc ks pc lo (.ref h0 :: rest) (w ++ [(h0, e0)]) := by
  intro H locs ls hl hP hD hS
  have hP : va_P D vwCl (w ++ [(h0, e0)]) H := hP
  have hD : va_D A (w ++ [(h0, e0)]) := hD
  have hF := ctor_free hA hD hS
  have hPc : va_P D vwCl [(h0, e0)] H := va_P_iff.mpr (fun q hq => va_P_iff.mp hP q (List.mem_append_right _ hq))
  refine va_callv (va_runI (As := []) (rest := rest) ⟨X.1, X.2.1, X.2.2.1, X.2.2.2.1, X.2.2.2.2.1⟩ (hM H.size) (cwI 0 X.2.2.2.2.1 (gd_I hy) rfl hrc.1 hrc.2 (X.2.2.2.2.1 _ hy.1.2.1) (X.2.2.2.2.1 _ hw) (X.2.2.2.2.1 _ hy.1.1) hy.2.1 hy.2.2 hR) ⟨bN_blind, fun U hU hW => ⟨rfl, by rw [hU], by rw [hU]; exact hPc, X.2.2.2.2.2.1.warm hW⟩⟩ rfl rfl hl.1 rfl (lv_room hcat) d hkc) hS (fun q _ h => hF q h) hF (fun u t H1 locs1 ht hvm hpost hB hz hk hS1 => ?_)
  obtain ⟨qs, hP1, hD1⟩ := hB
  rw [ht] at hP1
  obtain ⟨hP2, hD2⟩ := ctor_join hP hD hF hk hP1 hD1
  exact k qs H1 locs1 ls hl hP2 hD2 hS1
theorem g_ctorN (X : gX p s m args meth c cc nL own D cI) (hA : ∀ q, s.heap.size ≤ q → A q) {y : MethodName} {b : ByteArray} {nLc idx mc ms h0 : Nat} {host : String} {rm : Room} {e0 : va_E} {F : (Nat → Nat) → va_W} {rest : List Value} (hM : CTn l D cI y b nLc rm mc ms h0 e0 F) (d : decode cc pc = .ok (.invokespecial idx, 3)) (hw : (own, idx, y, host) ∈ nsts) (hy : yI y b nLc) (hR : rm.frames + 1 ≤ R.frames ∧ 8 + (nLc + 11) + rm.locals ≤ R.locals) (hrc : rm.cells = mc ∧ rm.slots = ms) (hcat : (rest.map fun v => v.category).sum ≤ 8) (hkc : kc + mc ≤ R.cells ∧ ks + ms ≤ R.slots) (k : ∀ qs, G p l e R s m args below meth c D A nL Q wI (kc + mc) (ks + ms) (pc + 3) lo rest (w ++ F qs)) : G p l e R s m args below meth c D A nL Q wI kc ks pc lo (.ref h0 :: rest) (w ++ [(h0, e0)]) := by
  intro H locs ls hl hP hD hS
  have hP : va_P D vwCl (w ++ [(h0, e0)]) H := hP
  have hD : va_D A (w ++ [(h0, e0)]) := hD
  have hF := ctor_free hA hD hS
  have hPc : va_P D vwCl [(h0, e0)] H := va_P_iff.mpr (fun q hq => va_P_iff.mp hP q (List.mem_append_right _ hq))
  refine va_callv (va_runIN (As := []) (rest := rest) ⟨X.1, X.2.1, X.2.2.1, X.2.2.2.1, X.2.2.2.2.1⟩ (hM H.size) ⟨va_cnB 0 X.2.2.2.2.1 (gd_I hy) rfl hrc.1 hrc.2 (X.2.2.2.2.2.1.2.1 _ hw) (X.2.2.2.2.1 _ hy.1.2.1) hy.2.2 hR, hy.2.1, X.2.2.2.2.1 _ hy.1.1⟩ ⟨bN_blind, fun U hU hW => ⟨rfl, by rw [hU], by rw [hU]; exact hPc, X.2.2.2.2.2.1.warm hW⟩⟩ rfl rfl hl.1 rfl (lv_room hcat) d hkc) hS (fun q _ h => hF q h) hF (fun u t H1 locs1 ht hvm hpost hB hz hk hS1 => ?_)
  obtain ⟨qs, hP1, hD1⟩ := hB
  rw [ht] at hP1
  obtain ⟨hP2, hD2⟩ := ctor_join hP hD hF hk hP1 hD1
  exact k qs H1 locs1 ls hl hP2 hD2 hS1
theorem g_nret (X : gX p s m args meth c cc nL own D cI) (hr : meth.sig.returnType = none) {F : (Nat → Nat) → va_W} (qs : Nat → Nat) (d : decode cc pc = .ok (.return_, 1)) (hw : w = F qs) : G p l e R s m args below meth c D A nL (MQ below (qcN D A F) args s kc ks A) wI kc ks pc lo [] w := by
  subst hw
  intro H locs ls hl hP hD hS
  exact W.vret X.1 X.2.1 hr (fun t ht hW => ⟨⟨(), rfl, trivial, qs, by rw [ht]; exact hP, hD⟩, hS.F ht⟩) hS.2.2 d X.2.2.2.2.2.2
/-- a world that shows the same -/
theorem g_same {w' : va_W} (hm : w'.map Prod.fst = w.map Prod.fst) (h : ∀ H, va_P D vwCl w H → va_P D vwCl w' H) (k : G p l e R s m args below meth c D A nL Q wI kc ks pc lo st w') : G p l e R s m args below meth c D A nL Q wI kc ks pc lo st w := by
  intro H locs ls hl hP hD hS
  have hD : va_D A w := hD
  refine k H locs ls hl (h H hP) (show va_D A w' from va_D_iff.mpr ⟨by rw [hm]; exact (va_D_iff.mp hD).1, fun q hq => ?_⟩) hS
  have : q.1 ∈ w.map Prod.fst := by rw [← hm]; exact List.mem_map_of_mem hq
  obtain ⟨z, hz, he⟩ := List.mem_map.mp this
  rw [← he]
  exact (va_D_iff.mp hD).2 z hz
end MK
theorem lift_set {l : Launch} {D : va_G} {cI : ClassId × ClassId} {A : Nat → Prop} {y : MethodName} {b : ByteArray} {nL : Nat} {ret : Option FieldType} {rm : Room} {As : List Value} {w : va_W} {q k : Nat} {e1 e2 : va_E} (hk : w[k]? = some (q, e1)) (hM : CTv l D cI (fun a => a = q) y b nL ret rm As [(q, e1)] [(q, e2)]) : CTv l D cI A y b nL ret rm As w (w.set k (q, e2)) := by
  have hl := (List.getElem?_eq_some_iff.mp hk).1
  refine lift_v (A1 := fun a => a = q) (wc := [(q, e1)]) (wc1 := [(q, e2)]) (fun a => by simp) (fun z hz => by rw [List.mem_singleton] at hz; subst hz; exact List.mem_of_getElem? hk) (fun _ => by simp) ?_ (fun hn z hz => ?_) hM
  · rw [List.map_set]
    refine List.ext_getElem? (fun j => ?_)
    by_cases e : k = j
    · subst e
      rw [List.getElem?_set_self (by rw [List.length_map]; exact hl), List.getElem?_map, hk]
      rfl
    · rw [List.getElem?_set_ne e]
  · obtain ⟨j, hj⟩ := List.getElem?_of_mem hz
    by_cases e : k = j
    · subst e
      rw [List.getElem?_set_self hl] at hj
      cases hj
      exact Or.inl (by simp)
    · rw [List.getElem?_set_ne e] at hj
      refine Or.inr (Or.inl ⟨List.mem_of_getElem? hj, ?_⟩)
      rw [List.map_cons, List.map_nil, List.mem_singleton]
      intro h5
      have lj := (List.getElem?_eq_some_iff.mp hj).1
      have ej := (List.getElem?_eq_some_iff.mp hj).2
      have ek := (List.getElem?_eq_some_iff.mp hk).2
      rw [List.nodup_iff_pairwise_ne, List.pairwise_iff_getElem] at hn
      rcases Nat.lt_trichotomy k j with z1 | z1 | z1
      · exact hn k j (by rw [List.length_map]; exact hl) (by rw [List.length_map]; exact lj) z1 (by rw [List.getElem_map, List.getElem_map, ek, ej]; exact h5.symm)
      · exact e z1
      · exact hn j k (by rw [List.length_map]; exact lj) (by rw [List.length_map]; exact hl) z1 (by rw [List.getElem_map, List.getElem_map, ek, ej]; exact h5)
/-! Arrays.fill -/
abbrev wF (cI : ClassId × ClassId) (q n : Nat) : (Nat → Int32) → va_W := fun f => [(q, .inl (cI.1, n, .inl f))]
theorem dJ7_fill_53178_0 : decode cJ7_fill_53178 0 = .ok (.iconst 0, 1) := by decide +kernel
theorem dJ7_fill_53178_1 : decode cJ7_fill_53178 1 = .ok (.istore_n 2, 1) := by decide +kernel
theorem dJ7_fill_53178_2 : decode cJ7_fill_53178 2 = .ok (.aload_n 0, 1) := by decide +kernel
theorem dJ7_fill_53178_3 : decode cJ7_fill_53178 3 = .ok (.arraylength, 1) := by decide +kernel
theorem dJ7_fill_53178_4 : decode cJ7_fill_53178 4 = .ok (.istore_n 3, 1) := by decide +kernel
theorem dJ7_fill_53178_5 : decode cJ7_fill_53178 5 = .ok (.iload_n 2, 1) := by decide +kernel
theorem dJ7_fill_53178_6 : decode cJ7_fill_53178 6 = .ok (.iload_n 3, 1) := by decide +kernel
theorem dJ7_fill_53178_7 : decode cJ7_fill_53178 7 = .ok (.if_icmp .ge 13, 3) := by decide +kernel
theorem dJ7_fill_53178_10 : decode cJ7_fill_53178 10 = .ok (.aload_n 0, 1) := by decide +kernel
theorem dJ7_fill_53178_11 : decode cJ7_fill_53178 11 = .ok (.iload_n 2, 1) := by decide +kernel
theorem dJ7_fill_53178_12 : decode cJ7_fill_53178 12 = .ok (.iload_n 1, 1) := by decide +kernel
theorem dJ7_fill_53178_13 : decode cJ7_fill_53178 13 = .ok (.iastore, 1) := by decide +kernel
theorem dJ7_fill_53178_14 : decode cJ7_fill_53178 14 = .ok (.iinc 2 1, 3) := by decide +kernel
theorem dJ7_fill_53178_17 : decode cJ7_fill_53178 17 = .ok (.goto (-12), 3) := by decide +kernel
theorem dJ7_fill_53178_20 : decode cJ7_fill_53178 20 = .ok (.return_, 1) := by decide +kernel
theorem yv_J7_fill_53178 : yS yJ7_fill_53178 cJ7_fill_53178 4 (none) 2 := ⟨⟨tb1 49 rfl, tb1 5 rfl, tb1 50 rfl⟩, by decide +kernel, by decide +kernel, by decide +kernel⟩
abbrev rm_J7_fill_53178 : Room := { frames := 0, cells := 0, slots := 0, locals := 0 }
theorem clamp_ofNat {k : Nat} (h : k < 1000) : (Int32.ofNat k).toNatClampNeg = k := nI_clamp (n := k) (by omega)
theorem lt_ofNat {a b : Nat} (ha : a < 1000) (hb : b < 1000) : Int32.ofNat a < Int32.ofNat b ↔ a < b := nI_ltI (a := a) (b := b) (by omega) (by omega)
theorem succ_ofNat {a : Nat} : Int32.ofNat a + 1 = Int32.ofNat (a + 1) := nI_1 a
theorem nn_ofNat {a : Nat} (ha : a < 1000) : ¬ Int32.ofNat a < 0 := nI_pos (n := a) (by omega)
set_option maxRecDepth 100000 in
theorem c_fill {l : Launch} {D : va_G} {cI : ClassId × ClassId} {A : Nat → Prop} {q n : Nat} {f : Nat → Int32} {x1 : Int32} (hn : n < 1000) : CTv l D cI A yJ7_fill_53178 cJ7_fill_53178 4 (none) rm_J7_fill_53178 [.ref q, .int x1] (wF cI q n f) (wF cI q n (fun _ => x1)) := by
  refine CTv.of (wf := wF cI q n) (w := f) (by decide +kernel) rfl (Nat.le_of_ble_eq_true rfl) ?_
  intro p e s m args below meth c X hr
  have X : gX p s m args meth c cJ7_fill_53178 4 RJ7 D cI := X
  show G _ _ _ _ _ _ _ _ _ _ _ _ _ _ _ _ _ 0 [some (.ref q), some (.int x1), none, none] [] f
  have loop : ∀ (k i : Nat) (f : Nat → Int32), i + k = n → (∀ j, j < i → f j = x1) → G p l e rm_J7_fill_53178 s m args below meth c D A 4 (MQ below (qcV D A (wF cI q n (fun _ => x1))) args s 0 0 A) (wF cI q n) 0 0 5 [some (.ref q), some (.int x1), some (.int (Int32.ofNat i)), some (.int (Int32.ofNat n))] [] f := by
    intro k
    induction k with
    | zero =>
      intro i f hi hf
      refine g_iload_n X (i := 2) dJ7_fill_53178_5 rfl rfl ?_
      refine g_iload_n X (i := 3) dJ7_fill_53178_6 rfl rfl ?_
      refine g_icmp_ge X dJ7_fill_53178_7 (tgt := 20) (by decide) (F1 := some ()) (F2 := some ()) (o := ()) (by split <;> rfl) (fun c1 _ => ?_) (fun c1 _ => ?_)
      · exact absurd ((lt_ofNat (by omega) hn).mp c1) (by omega)
      · intro H locs ls hl hP hD hS
        have hP : va_P D vwCl (wF cI q n f) H := hP
        have hP2 : va_P D vwCl (wF cI q n (fun _ => x1)) H := va_P_iff.mpr (fun z hz => by
          rw [List.mem_singleton] at hz
          subst hz
          exact arr_at (fun j hj => hf j (by omega)) (va_P_iff.mp hP _ (by simp)))
        exact g_vret (wf := wF cI q n) (w := fun _ => x1) X hr (x := 0) (o := (0, fun _ => x1)) dJ7_fill_53178_20 rfl H locs ls hl hP2 (va_D_iff.mpr ⟨by simp, fun z hz => by
          rw [List.mem_singleton] at hz
          subst hz
          exact hD.2 0 (q, .inl (cI.1, n, .inl f)) rfl⟩) hS
    | succ k ih =>
      intro i f hi hf
      refine g_iload_n X (i := 2) dJ7_fill_53178_5 rfl rfl ?_
      refine g_iload_n X (i := 3) dJ7_fill_53178_6 rfl rfl ?_
      refine g_icmp_ge X dJ7_fill_53178_7 (tgt := 20) (by decide) (F1 := some ()) (F2 := some ()) (o := ()) (by split <;> rfl) (fun c1 _ => ?_) (fun c1 _ => ?_)
      · refine g_aload_n X (i := 0) dJ7_fill_53178_10 rfl rfl ?_
        refine g_iload_n X (i := 2) dJ7_fill_53178_11 rfl rfl ?_
        refine g_iload_n X (i := 1) dJ7_fill_53178_12 rfl rfl ?_
        refine g_iast X (q0 := 0) (w' := upd f (Int32.ofNat i).toNatClampNeg x1) dJ7_fill_53178_13 rfl ⟨nn_ofNat (by omega), by rw [clamp_ofNat (by omega)]; omega⟩ rfl ?_
        refine g_iinc X (i := 2) (v := 1) dJ7_fill_53178_14 rfl (by decide) (by decide) rfl ?_
        refine g_goto X dJ7_fill_53178_17 (tgt := 5) (by decide) ?_
        rw [clamp_ofNat (by omega), succ_ofNat]
        refine ih (i + 1) (upd f i x1) (by omega) (fun j hj => ?_)
        unfold upd
        by_cases e : j = i
        · rw [if_pos e]
        · rw [if_neg e]; exact hf j (by omega)
      · exact absurd ((lt_ofNat (by omega) hn).mpr (by omega)) c1
  refine g_iconst X dJ7_fill_53178_0 (v := 0) (by decide) ?_
  refine g_istore_n X (i := 2) dJ7_fill_53178_1 rfl (by decide) rfl ?_
  refine g_aload_n X (i := 0) dJ7_fill_53178_2 rfl rfl ?_
  refine g_alen X (q0 := 0) (f := f) (v := Int32.ofNat n) dJ7_fill_53178_3 rfl rfl ?_
  refine g_istore_n X (i := 3) dJ7_fill_53178_4 rfl (by decide) rfl ?_
  exact loop n 0 f (by omega) (fun j hj => by omega)
