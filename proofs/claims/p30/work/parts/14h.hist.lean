/-! HISTORY: the ring of five states -/
theorem pwT_0 (ad : Nat → Nat) (cI : ClassId × ClassId) (t : TT) (v : Int32) : (wT ad cI t).set 2 (ad 2, .inr (6, [.ref (ad 5), .ref (ad 16), .ref (ad 27), .ref (ad 3), .ref (ad 0), .int (t.2.2 0)].set 5 (.int v))) = wT ad cI (tR t 0 v) := rfl
theorem pwT_1 (ad : Nat → Nat) (cI : ClassId × ClassId) (t : TT) (v : Int32) : (wT ad cI t).set 3 (ad 3, .inr (2, [.ref (ad 4), .int (t.2.2 1), .int (t.2.2 2)].set 1 (.int v))) = wT ad cI (tR t 1 v) := rfl
theorem pwT_2 (ad : Nat → Nat) (cI : ClassId × ClassId) (t : TT) (v : Int32) : (wT ad cI t).set 3 (ad 3, .inr (2, [.ref (ad 4), .int (t.2.2 1), .int (t.2.2 2)].set 2 (.int v))) = wT ad cI (tR t 2 v) := rfl
theorem wT_get (ad : Nat → Nat) (cI : ClassId × ClassId) (t : TT) {i : Nat} (hi : i < 8) : ∃ fs, (wT ad cI t)[5 + 11 * i]? = some (ad (5 + 11 * i), .inr (5, fs)) := by
  rcases (by omega : i = 0 ∨ i = 1 ∨ i = 2 ∨ i = 3 ∨ i = 4 ∨ i = 5 ∨ i = 6 ∨ i = 7) with rfl | rfl | rfl | rfl | rfl | rfl | rfl | rfl <;> exact ⟨_, rfl⟩
def CTr (l : Launch) (D : va_G) (cI : ClassId × ClassId) (A : Nat → Prop) (y : MethodName) (b : ByteArray) (nL : Nat) (ret : Option FieldType) (rm : Room) (As : List Value) (ws : va_W) (a : Nat) (ws' : va_W) : Prop :=
  Met l y (.code y b nL ret :: lw_g) rm (va_Pc As (gB D cI A ws)) (va_Qr (fun (_ : Unit) => True) (fun _ a' t => a' = a ∧ va_P D vwCl ws' t.heap ∧ va_D A ws') A) 0 0 A
section HH
variable {p : Program} {l : Launch} {e : Env} {R : Room} {s : State} {m : MethodId} {args : Array Value} {below : List Frame} {meth : Method} {c : Code} {D : va_G} {A : Nat → Prop} {nL : Nat} {Q : State → Prop} {Wt : Type} {kc ks : Nat} {wf : Wt → va_W} {cc : ByteArray} {own : String} {cI : ClassId × ClassId} {pc : Nat} {lo : List (Option Value)} {st : List Value} {w : Wt}
theorem CTr.of {y : MethodName} {b : ByteArray} {ret : Option FieldType} {rm : Room} {As : List Value} {a : Nat} {ws' : va_W} (hpl : plainName y.cls = true) (hc : As.all (fun v => v.category == 1) = true) (hn : As.length ≤ nL)
    (h : ∀ (p : Program) (e : Env) (s : State) (m : MethodId) (args : Array Value) (below : List Frame) (meth : Method) (c : Code), gX p s m args meth c b nL y.cls D cI → meth.sig.returnType = ret → G p l e rm s m args below meth c D A nL (MQ below (va_Qr (fun (_ : Unit) => True) (fun _ a' t => a' = a ∧ va_P D vwCl ws' t.heap ∧ va_D A ws') A) args s 0 0 A) wf 0 0 0 (lo0 nL As) [] w) : CTr l D cI A y b nL ret rm As (wf w) a ws' := by
  refine Met.ofW (cc := b) (maxL := nL) (ret := ret) hpl rfl ?_
  intro p e s m args below meth c s₁ B hml hv
  obtain ⟨rfl, hP, hK, hD⟩ := hv
  have hts := atoms_spec (ws := .code y b nL ret :: lw_g) B.pre
  have hx : gX p s m As.toArray meth c b nL y.cls D cI := ⟨B.exec, B.bytes, hml, findClass_of_methodNamed B.named, fun w hw => hts w (List.mem_cons_of_mem _ hw), hK, B.notSynchronized⟩
  rw [lg_entry_eq]
  exact h p e s m _ below meth c hx B.returns _ _ _ (lo_entry hc hn) hP hD va_S.rf
theorem g_aald (X : gX p s m args meth c cc nL own D cI) {q0 a n b : Nat} {f : Nat → Option Nat} {i : Int32} (d : decode cc pc = .ok (.aaload, 1)) (he : (wf w)[q0]? = some (a, .inl (cI.2, n, .inr (.inr (.inr (.inr f)))))) (hi : ib i n) (hb : f i.toNatClampNeg = some b) (k : G p l e R s m args below meth c D A nL Q wf kc ks (pc + 1) lo (.ref b :: st) w) : G p l e R s m args below meth c D A nL Q wf kc ks pc lo (.int i :: .ref a :: st) w := by
  intro H locs ls hl hP hD hS
  refine va_aldq X.1 X.2.1 X.2.2.2.2.2.1.1 hP q0 1 he rfl (ib_in hi) d ?_
  rw [hb]
  exact k H locs ls hl hP hD hS
theorem g_aret (X : gX p s m args meth c cc nL own D cI) {C : String} (hr : meth.sig.returnType = some (.object C)) {a : Nat} (d : decode cc pc = .ok (.areturn, 1)) : G p l e R s m args below meth c D A nL (MQ below (va_Qr (fun (_ : Unit) => True) (fun _ a' t => a' = a ∧ va_P D vwCl (wf w) t.heap ∧ va_D A (wf w)) A) args s kc ks A) wf kc ks pc lo [.ref a] w := by
  intro H locs ls hl hP hD hS
  exact W.aret X.1 X.2.1 hr (Or.inl ⟨_, rfl⟩) (Or.inr ⟨a, rfl⟩) (fun t ht hW => ⟨⟨(), a, rfl, trivial, rfl, by rw [ht]; exact hP, hD⟩, hS.F ht⟩) hS.2.2 d X.2.2.2.2.2.2
theorem g_Vr (X : gX p s m args meth c cc nL own D cI) {y : MethodName} {b : ByteArray} {nLc n idx q0 ci a N ra : Nat} {ret : Option FieldType} {rm : Room} {C : String} {T : u_T} {fs As st rest : List Value} {w1 : Wt} (hM : CTr l D cI A y b nLc ret rm (.ref a :: As) (wf w) ra (wf w1)) (d : decode cc pc = .ok (.invokevirtual idx, 3)) (hw : Cond.methodLink own idx y ∈ lw_g) (hy : yV y C b nLc ret n) (he : (wf w)[q0]? = some (a, .inr (ci, fs))) (hc : vwCl[ci]? = some (C, T, N)) (hst : st = As.reverse ++ .ref a :: rest) (hn : As.length = n) (hR : rm.frames + 1 ≤ R.frames ∧ 8 + (nLc + 11) + rm.locals ≤ R.locals) (hrc : rm.cells = 0 ∧ rm.slots = 0) (hcat : (rest.map fun v => v.category).sum ≤ 8) (hkc : kc + 0 ≤ R.cells ∧ ks + 0 ≤ R.slots) (k : G p l e R s m args below meth c D A nL Q wf kc ks (pc + 3) lo (.ref ra :: rest) w1) : G p l e R s m args below meth c D A nL Q wf kc ks pc lo st w := by
  intro H locs ls hl hP hD hS
  refine va_callr (va_runV (As := As) (rest := rest) ⟨X.1, X.2.1, X.2.2.1, X.2.2.2.1, X.2.2.2.2.1⟩ hM (cwV n X.2.2.2.2.1 (gd_V hy hw) rfl hrc.1 hrc.2 hy.2 hR) ⟨gB_blind, va_recv X.2.2.2.2.2.1.1 hP hc he, fun U hU hW => ⟨rfl, by rw [hU]; exact hP, X.2.2.2.2.2.1.warm hW, hD⟩⟩ rfl hn hl.1 hst (lv_room hcat) d hkc) hS (fun _ _ h => h) (fun _ h => h)
    (fun u r1 t H1 locs1 ht hvm hpost hB hz hk hS1 => ?_)
  obtain ⟨rfl, hP1, hD1⟩ := hB
  exact k H1 locs1 ls hl (by rw [← ht]; exact hP1) hD1 hS1
end HH
def f_X2_note (w : TT) : Option (Int32 × TT) := (f_J9_floorMod_7cf53 ((w.2.2 1) + (w.2.2 2)) 5 w).bind fun o => if ib o.1 5 then some (0, cpT o.2 (3 + o.1.toNatClampNeg) 0) else none
set_option maxRecDepth 100000 in
theorem c_X2_stateAt {l : Launch} {D : va_G} {cI : ClassId × ClassId} {A : Nat → Prop} {ad : Nat → Nat} {x1 : Int32} {w : TT} {o : Int32 × TT} (hf : f_J9_floorMod_7cf53 ((w.2.2 1) + x1) 5 w = some o) (hb : ib o.1 5) : CTr l D cI A yX2_stateAt cX2_stateAt 2 (some (.object "ReachedHeap$State")) rm_X2_stateAt [.ref (ad 3), .int x1] (wT ad cI w) (ad (38 + 11 * o.1.toNatClampNeg)) (wT ad cI o.2) := by
  refine CTr.of (by decide +kernel) rfl (Nat.le_of_ble_eq_true rfl) ?_
  intro p e s m args below meth c X hr
  have X : gX p s m args meth c cX2_stateAt 2 RX2 D cI := X
  show G _ _ _ _ _ _ _ _ _ _ _ _ _ _ _ _ _ 0 [some (.ref (ad 3)), some (.int x1)] [] w
  refine g_aload_n X (i := 0) dX2_stateAt_0 rfl rfl ?_
  refine g_get X (q0 := 3) (v := .ref (ad 4)) 0 dX2_stateAt_1 gC_X2 rfl rfl (by decide) fl_X2_11 rfl rfl ?_
  refine g_aload_n X (i := 0) dX2_stateAt_4 rfl rfl ?_
  refine g_get X (q0 := 3) (v := .int (w.2.2 1)) 1 dX2_stateAt_5 gC_X2 rfl rfl (by decide) fl_X2_18 rfl rfl ?_
  refine g_iload_n X (i := 1) dX2_stateAt_8 rfl rfl ?_
  refine g_iadd X dX2_stateAt_9 ?_
  refine g_iconst X dX2_stateAt_10 (v := 5) (by decide) ?_
  refine g_Si X (As := [.int ((w.2.2 1) + x1), .int 5]) (rest := [.ref (ad 4)]) (c_J9_floorMod_7cf53 (wf := (wT ad cI)) hf) dX2_stateAt_11 ml_X2_22 yv_J9_floorMod_7cf53 rfl rfl ⟨Nat.le_of_ble_eq_true rfl, Nat.le_of_ble_eq_true rfl⟩ ⟨rfl, rfl⟩ (Nat.le_of_ble_eq_true rfl) ⟨Nat.le_of_ble_eq_true rfl, Nat.le_of_ble_eq_true rfl⟩ ?_
  refine g_aald X (q0 := 4) (f := hC ad) dX2_stateAt_14 rfl hb rfl ?_
  exact g_aret X hr dX2_stateAt_15
set_option maxRecDepth 100000 in
theorem c_X2_note {l : Launch} {D : va_G} {cI : ClassId × ClassId} {A : Nat → Prop} {ad : Nat → Nat} {w : TT} {o : Int32 × TT} (hf : f_X2_note w = some o) : CTv l D cI A yX2_note cX2_note 2 (none) rm_X2_note [.ref (ad 3), .ref (ad 5)] (wT ad cI w) (wT ad cI o.2) := by
  refine CTv.of (by decide +kernel) rfl (Nat.le_of_ble_eq_true rfl) ?_
  intro p e s m args below meth c X hr
  have X : gX p s m args meth c cX2_note 2 RX2 D cI := X
  show G _ _ _ _ _ _ _ _ _ _ _ _ _ _ _ _ _ 0 [some (.ref (ad 3)), some (.ref (ad 5))] [] w
  unfold f_X2_note at hf
  obtain ⟨o1, h1, hf⟩ := hfb hf
  obtain ⟨hb, hf⟩ := hfg hf
  have hk : o1.1.toNatClampNeg < 5 := hb.2
  refine g_aload_n X (i := 0) dX2_note_0 rfl rfl ?_
  refine g_aload_n X (i := 0) dX2_note_1 rfl rfl ?_
  refine g_get X (q0 := 3) (v := .int (w.2.2 2)) 2 dX2_note_2 gC_X2 rfl rfl (by decide) fl_X2_28 rfl rfl ?_
  refine g_Vr X (q0 := 3) (As := [.int (w.2.2 2)]) (rest := []) (c_X2_stateAt h1 hb) dX2_note_5 ml_X2_31 yv_X2_stateAt rfl rfl rfl rfl ⟨Nat.le_of_ble_eq_true rfl, Nat.le_of_ble_eq_true rfl⟩ ⟨rfl, rfl⟩ (Nat.le_of_ble_eq_true rfl) ⟨Nat.le_of_ble_eq_true rfl, Nat.le_of_ble_eq_true rfl⟩ ?_
  refine g_aload_n X (i := 1) dX2_note_8 rfl rfl ?_
  rw [show 38 + 11 * o1.1.toNatClampNeg = 5 + 11 * (3 + o1.1.toNatClampNeg) by omega]
  obtain ⟨fs, hfs⟩ := wT_get ad cI o1.2 (i := 3 + o1.1.toNatClampNeg) (by omega)
  refine g_Vv X (q0 := 5 + 11 * (3 + o1.1.toNatClampNeg)) (As := [.ref (ad 5)]) (rest := []) (c_cpT (i := 3 + o1.1.toNatClampNeg) (j := 0) (by omega) (by decide) (by omega)) dX2_note_9 ml_X2_35 yv_X5_copyFrom hfs rfl rfl rfl ⟨Nat.le_of_ble_eq_true rfl, Nat.le_of_ble_eq_true rfl⟩ ⟨rfl, rfl⟩ (Nat.le_of_ble_eq_true rfl) ⟨Nat.le_of_ble_eq_true rfl, Nat.le_of_ble_eq_true rfl⟩ ?_
  exact g_vret X hr dX2_note_12 hf
