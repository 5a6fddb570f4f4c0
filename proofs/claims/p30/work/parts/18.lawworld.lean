section JN
variable {p : Program} {l : Launch} {e : Env} {R : Room} {s : State} {m : MethodId} {args : Array Value} {below : List Frame} {meth : Method} {c : Code} {D : va_G} {A : Nat → Prop} {nL : Nat} {Q : State → Prop} {Wt : Type} {kc ks : Nat} {wf : Wt → va_W} {cc : ByteArray} {own : String} {cI : ClassId × ClassId} {pc : Nat} {lo : List (Option Value)} {st : List Value} {w : Wt}
theorem g_aload (X : gX p s m args meth c cc nL own D cI) {i : Nat} {x : Nat} (d : decode cc pc = .ok (.aload i, 2)) (hl0 : lo[i]? = some (some (.ref x))) (k : G p l e R s m args below meth c D A nL Q wf kc ks (pc + 2) lo (.ref x :: st) w) : G p l e R s m args below meth c D A nL Q wf kc ks pc lo st w :=
  fun H locs ls hl hP hD hS => lv_aload X.1 X.2.1 d (hl.2.2 _ _ hl0) (k H locs ls hl hP hD hS)
theorem g_astore (X : gX p s m args meth c cc nL own D cI) {i : Nat} {x : Nat} (d : decode cc pc = .ok (.astore i, 2)) (hn : i < nL) (hc : cat1 lo = true) (k : G p l e R s m args below meth c D A nL Q wf kc ks (pc + 2) (lo.set i (some (.ref x))) st w) : G p l e R s m args below meth c D A nL Q wf kc ks pc lo (.ref x :: st) w :=
  fun H locs ls hl hP hD hS => lv_astore X.1 X.2.1 d (lo_lv hl) hn rfl (fun ls1 hl1 => k H locs ls1 (lo_sto hc hl1) hP hD hS)
theorem g_jn {M : Nat} {lo2 : List (Option Value)} {st2 : List Value} {w2 : Wt} (k2 : G p l e R s m args below meth c D A nL Q wf kc ks M lo2 st2 w2) (k1 : G p l e R s m args below meth c D A nL Q wf kc ks M lo2 st2 w2 → G p l e R s m args below meth c D A nL Q wf kc ks pc lo st w) : G p l e R s m args below meth c D A nL Q wf kc ks pc lo st w := k1 k2
end JN
/-! THE LAW'S WORLD -/
abbrev JT : Type := TT × St
abbrev KT : Type := TT × (St × (Nat → Int32))
def adR (ad : Nat → Nat) : Nat → Nat := fun k => ad (93 + k)
def wJ (ex : va_W) (ad : Nat → Nat) (cI : ClassId × ClassId) (w : JT) : va_W := wT ad cI w.1 ++ (wR (adR ad) cI w.2 ++ ex)
def wK (q : Nat) (ad : Nat → Nat) (cI : ClassId × ClassId) (w : KT) : va_W := wJ [(q, .inl (cI.1, 7, .inl w.2.2))] ad cI (w.1, w.2.1)
theorem wR_fst (ad : Nat → Nat) (cI : ClassId × ClassId) (v : St) : (wR (adR ad) cI v).map Prod.fst = (List.range 8).map (fun k => ad (93 + k)) := rfl
theorem lift_l {l : Launch} {D : va_G} {cI : ClassId × ClassId} {A : Nat → Prop} {y : MethodName} {b : ByteArray} {nL : Nat} {ret : Option FieldType} {rm : Room} {As : List Value} {r : Int32} {wc wc1 ex : va_W} (he : wc1.map Prod.fst = wc.map Prod.fst) (hM : CTi l D cI (fun q => q ∈ wc.map Prod.fst) y b nL ret rm As wc r wc1) : CTi l D cI A y b nL ret rm As (wc ++ ex) r (wc1 ++ ex) := by
  refine lift_i (fun q => Iff.rfl) (fun q hq => List.mem_append_left _ hq) (fun h => ?_) (by rw [List.map_append, List.map_append, he]) (fun h q hq => ?_) hM
  · rw [List.map_append, List.nodup_append] at h
    exact h.1
  · rcases List.mem_append.mp hq with h1 | h1
    · exact Or.inl h1
    · rw [List.map_append, List.nodup_append] at h
      exact Or.inr ⟨List.mem_append_right _ h1, fun h2 => h.2.2 q.1 h2 q.1 (List.mem_map_of_mem h1) rfl⟩
theorem lift_r {l : Launch} {D : va_G} {cI : ClassId × ClassId} {A : Nat → Prop} {y : MethodName} {b : ByteArray} {nL : Nat} {ret : Option FieldType} {rm : Room} {As : List Value} {r : Int32} {wc wc1 ex : va_W} (he : wc1.map Prod.fst = wc.map Prod.fst) (hM : CTi l D cI (fun q => q ∈ wc.map Prod.fst) y b nL ret rm As wc r wc1) : CTi l D cI A y b nL ret rm As (ex ++ wc) r (ex ++ wc1) := by
  refine lift_i (fun q => Iff.rfl) (fun q hq => List.mem_append_right _ hq) (fun h => ?_) (by rw [List.map_append, List.map_append, he]) (fun h q hq => ?_) hM
  · rw [List.map_append, List.nodup_append] at h
    exact h.2.1
  · rcases List.mem_append.mp hq with h1 | h1
    · rw [List.map_append, List.nodup_append] at h
      exact Or.inr ⟨List.mem_append_left _ h1, fun h2 => h.2.2 q.1 (List.mem_map_of_mem h1) q.1 h2 rfl⟩
    · exact Or.inl h1
theorem lift_lv {l : Launch} {D : va_G} {cI : ClassId × ClassId} {A : Nat → Prop} {y : MethodName} {b : ByteArray} {nL : Nat} {ret : Option FieldType} {rm : Room} {As : List Value} {wc wc1 ex : va_W} (he : wc1.map Prod.fst = wc.map Prod.fst) (hM : CTv l D cI (fun q => q ∈ wc.map Prod.fst) y b nL ret rm As wc wc1) : CTv l D cI A y b nL ret rm As (wc ++ ex) (wc1 ++ ex) := by
  refine lift_v (fun q => Iff.rfl) (fun q hq => List.mem_append_left _ hq) (fun h => ?_) (by rw [List.map_append, List.map_append, he]) (fun h q hq => ?_) hM
  · rw [List.map_append, List.nodup_append] at h
    exact h.1
  · rcases List.mem_append.mp hq with h1 | h1
    · exact Or.inl h1
    · rw [List.map_append, List.nodup_append] at h
      exact Or.inr (Or.inl ⟨List.mem_append_right _ h1, fun h2 => h.2.2 q.1 h2 q.1 (List.mem_map_of_mem h1) rfl⟩)
theorem lift_rv {l : Launch} {D : va_G} {cI : ClassId × ClassId} {A : Nat → Prop} {y : MethodName} {b : ByteArray} {nL : Nat} {ret : Option FieldType} {rm : Room} {As : List Value} {wc wc1 ex : va_W} (he : wc1.map Prod.fst = wc.map Prod.fst) (hM : CTv l D cI (fun q => q ∈ wc.map Prod.fst) y b nL ret rm As wc wc1) : CTv l D cI A y b nL ret rm As (ex ++ wc) (ex ++ wc1) := by
  refine lift_v (fun q => Iff.rfl) (fun q hq => List.mem_append_right _ hq) (fun h => ?_) (by rw [List.map_append, List.map_append, he]) (fun h q hq => ?_) hM
  · rw [List.map_append, List.nodup_append] at h
    exact h.2.1
  · rcases List.mem_append.mp hq with h1 | h1
    · rw [List.map_append, List.nodup_append] at h
      exact Or.inr (Or.inl ⟨List.mem_append_left _ h1, fun h2 => h.2.2 q.1 (List.mem_map_of_mem h1) q.1 h2 rfl⟩)
    · exact Or.inl h1
theorem liftJ_T {l : Launch} {D : va_G} {cI : ClassId × ClassId} {A : Nat → Prop} {ex : va_W} {ad : Nat → Nat} {t t' : TT} {m : St} {y : MethodName} {b : ByteArray} {nL : Nat} {ret : Option FieldType} {rm : Room} {As : List Value} {r : Int32} (hM : CTi l D cI (fun q => q ∈ (wT ad cI t).map Prod.fst) y b nL ret rm As (wT ad cI t) r (wT ad cI t')) : CTi l D cI A y b nL ret rm As (wJ ex ad cI (t, m)) r (wJ ex ad cI (t', m)) :=
  lift_l (by rw [wT_fst, wT_fst]) hM
theorem liftJ_Ri {l : Launch} {D : va_G} {cI : ClassId × ClassId} {A : Nat → Prop} {ex : va_W} {ad : Nat → Nat} {t : TT} {m m' : St} {y : MethodName} {b : ByteArray} {nL : Nat} {ret : Option FieldType} {rm : Room} {As : List Value} {r : Int32} (hM : CTi l D cI (fun q => q ∈ (wR (adR ad) cI m).map Prod.fst) y b nL ret rm As (wR (adR ad) cI m) r (wR (adR ad) cI m')) : CTi l D cI A y b nL ret rm As (wJ ex ad cI (t, m)) r (wJ ex ad cI (t, m')) :=
  lift_r (by rw [List.map_append, List.map_append, wR_fst, wR_fst]) (lift_l (by rw [wR_fst, wR_fst]) hM)
theorem liftJ_Rv {l : Launch} {D : va_G} {cI : ClassId × ClassId} {A : Nat → Prop} {ex : va_W} {ad : Nat → Nat} {t : TT} {m m' : St} {y : MethodName} {b : ByteArray} {nL : Nat} {ret : Option FieldType} {rm : Room} {As : List Value} (hM : CTv l D cI (fun q => q ∈ (wR (adR ad) cI m).map Prod.fst) y b nL ret rm As (wR (adR ad) cI m) (wR (adR ad) cI m')) : CTv l D cI A y b nL ret rm As (wJ ex ad cI (t, m)) (wJ ex ad cI (t, m')) :=
  lift_rv (by rw [List.map_append, List.map_append, wR_fst, wR_fst]) (lift_lv (by rw [wR_fst, wR_fst]) hM)
theorem liftK_T {l : Launch} {D : va_G} {cI : ClassId × ClassId} {A : Nat → Prop} {q : Nat} {ad : Nat → Nat} {t t' : TT} {m : St} {v : Nat → Int32} {y : MethodName} {b : ByteArray} {nL : Nat} {ret : Option FieldType} {rm : Room} {As : List Value} {r : Int32} (hM : CTi l D cI (fun q => q ∈ (wT ad cI t).map Prod.fst) y b nL ret rm As (wT ad cI t) r (wT ad cI t')) : CTi l D cI A y b nL ret rm As (wK q ad cI (t, (m, v))) r (wK q ad cI (t', (m, v))) := liftJ_T hM
theorem liftK_Ri {l : Launch} {D : va_G} {cI : ClassId × ClassId} {A : Nat → Prop} {q : Nat} {ad : Nat → Nat} {t : TT} {m m' : St} {v : Nat → Int32} {y : MethodName} {b : ByteArray} {nL : Nat} {ret : Option FieldType} {rm : Room} {As : List Value} {r : Int32} (hM : CTi l D cI (fun q => q ∈ (wR (adR ad) cI m).map Prod.fst) y b nL ret rm As (wR (adR ad) cI m) r (wR (adR ad) cI m')) : CTi l D cI A y b nL ret rm As (wK q ad cI (t, (m, v))) r (wK q ad cI (t, (m', v))) := liftJ_Ri hM
theorem awJ_0 (ad : Nat → Nat) (cI : ClassId × ClassId) (w : JT) (i x : Int32) : (wJ [] ad cI w).set 93 (ad 93, .inl (cI.1, 11, .inl (upd (w.2.2 0) i.toNatClampNeg x))) = wJ [] ad cI (w.1, sA w.2 0 i x) := rfl
theorem awJ_1 (ad : Nat → Nat) (cI : ClassId × ClassId) (w : JT) (i x : Int32) : (wJ [] ad cI w).set 94 (ad 94, .inl (cI.1, 24, .inl (upd (w.2.2 1) i.toNatClampNeg x))) = wJ [] ad cI (w.1, sA w.2 1 i x) := rfl
theorem awJ_2 (ad : Nat → Nat) (cI : ClassId × ClassId) (w : JT) (i x : Int32) : (wJ [] ad cI w).set 95 (ad 95, .inl (cI.1, 24, .inl (upd (w.2.2 2) i.toNatClampNeg x))) = wJ [] ad cI (w.1, sA w.2 2 i x) := rfl
theorem awJ_3 (ad : Nat → Nat) (cI : ClassId × ClassId) (w : JT) (i x : Int32) : (wJ [] ad cI w).set 96 (ad 96, .inl (cI.1, 24, .inl (upd (w.2.2 3) i.toNatClampNeg x))) = wJ [] ad cI (w.1, sA w.2 3 i x) := rfl
theorem awJ_4 (ad : Nat → Nat) (cI : ClassId × ClassId) (w : JT) (i x : Int32) : (wJ [] ad cI w).set 97 (ad 97, .inl (cI.1, 24, .inl (upd (w.2.2 4) i.toNatClampNeg x))) = wJ [] ad cI (w.1, sA w.2 4 i x) := rfl
theorem awJ_5 (ad : Nat → Nat) (cI : ClassId × ClassId) (w : JT) (i x : Int32) : (wJ [] ad cI w).set 98 (ad 98, .inl (cI.1, 24, .inl (upd (w.2.2 5) i.toNatClampNeg x))) = wJ [] ad cI (w.1, sA w.2 5 i x) := rfl
theorem awJ_6 (ad : Nat → Nat) (cI : ClassId × ClassId) (w : JT) (i x : Int32) : (wJ [] ad cI w).set 99 (ad 99, .inl (cI.1, 24, .inl (upd (w.2.2 6) i.toNatClampNeg x))) = wJ [] ad cI (w.1, sA w.2 6 i x) := rfl
theorem awJ_7 (ad : Nat → Nat) (cI : ClassId × ClassId) (w : JT) (i x : Int32) : (wJ [] ad cI w).set 100 (ad 100, .inl (cI.1, 8, .inl (upd (w.2.2 7) i.toNatClampNeg x))) = wJ [] ad cI (w.1, sA w.2 7 i x) := rfl
theorem awK_8 (q : Nat) (ad : Nat → Nat) (cI : ClassId × ClassId) (w : KT) (i x : Int32) : (wK q ad cI w).set 101 (q, .inl (cI.1, 7, .inl (upd w.2.2 i.toNatClampNeg x))) = wK q ad cI (w.1, (w.2.1, upd w.2.2 i.toNatClampNeg x)) := rfl
section JM
variable {p : Program} {l : Launch} {e : Env} {R : Room} {s : State} {m : MethodId} {args : Array Value} {below : List Frame} {meth : Method} {c : Code} {D : va_G} {A : Nat → Prop} {nL : Nat} {Q : State → Prop} {Wt : Type} {kc ks : Nat} {wf : Wt → va_W} {cc : ByteArray} {own : String} {cI : ClassId × ClassId} {pc : Nat} {lo : List (Option Value)} {st : List Value} {w : Wt}
/-- a contract of a method that makes cells -/
def gMk (D : va_G) (cI : ClassId × ClassId) (A : Nat → Prop) (ws : va_W) (U : State) : Prop := gB D cI A ws U ∧ ∀ q, U.heap.size ≤ q → A q
def CTm (l : Launch) (D : va_G) (cI : ClassId × ClassId) (A : Nat → Prop) (y : MethodName) (b : ByteArray) (nL : Nat) (ret : Option FieldType) (rm : Room) (mc ms : Nat) (As : List Value) (ws : va_W) (r : Int32) (ws' : va_W) : Prop :=
  Met l y (.code y b nL ret :: lw_g) rm (va_Pc As (gMk D cI A ws)) (qcI D A r ws') mc ms A
theorem gMk_blind {As : List Value} {ws : va_W} : FrameBlind (va_Pc As (gMk D cI A ws)) := fun a U g mk q => ⟨q.1, ⟨q.2.1.1, gK.blind q.2.1.2.1, q.2.1.2.2⟩, q.2.2⟩
theorem CTm.of {y : MethodName} {b : ByteArray} {ret : Option FieldType} {rm : Room} {mc ms : Nat} {As : List Value} {r : Int32} {ws' : va_W} (hpl : plainName y.cls = true) (hc : As.all (fun v => v.category == 1) = true) (hn : As.length ≤ nL)
    (h : ∀ (p : Program) (e : Env) (s : State) (m : MethodId) (args : Array Value) (below : List Frame) (meth : Method) (c : Code), gX p s m args meth c b nL y.cls D cI → (∀ q, s.heap.size ≤ q → A q) → meth.sig.returnType = ret → G p l e rm s m args below meth c D A nL (MQ below (qcI D A r ws') args s mc ms A) wf 0 0 0 (lo0 nL As) [] w) : CTm l D cI A y b nL ret rm mc ms As (wf w) r ws' := by
  refine Met.ofW (cc := b) (maxL := nL) (ret := ret) hpl rfl ?_
  intro p e s m args below meth c s₁ B hml hv
  obtain ⟨rfl, ⟨hP, hK, hD⟩, hA⟩ := hv
  have hts := atoms_spec (ws := .code y b nL ret :: lw_g) B.pre
  have hx : gX p s m As.toArray meth c b nL y.cls D cI := ⟨B.exec, B.bytes, hml, findClass_of_methodNamed B.named, fun w hw => hts w (List.mem_cons_of_mem _ hw), hK, B.notSynchronized⟩
  rw [lg_entry_eq]
  exact h p e s m _ below meth c hx hA B.returns _ _ _ (lo_entry hc hn) hP hD va_S.rf
theorem g_Sm (X : gX p s m args meth c cc nL own D cI) (hA : ∀ q, s.heap.size ≤ q → A q) {y : MethodName} {b : ByteArray} {nLc n idx mc ms : Nat} {ret : Option FieldType} {rm : Room} {As st rest : List Value} {r : Int32} {w1 : Wt} (hM : CTm l D cI A y b nLc ret rm mc ms As (wf w) r (wf w1)) (d : decode cc pc = .ok (.invokestatic idx, 3)) (hw : Cond.methodLink own idx y ∈ lw_g) (hy : yS y b nLc ret n) (hst : st = As.reverse ++ rest) (hn : As.length = n) (hR : rm.frames + 1 ≤ R.frames ∧ 8 + (nLc + 11) + rm.locals ≤ R.locals) (hrc : rm.cells = mc ∧ rm.slots = ms) (hcat : (rest.map fun v => v.category).sum ≤ 8) (hkc : kc + mc ≤ R.cells ∧ ks + ms ≤ R.slots) (k : G p l e R s m args below meth c D A nL Q wf (kc + mc) (ks + ms) (pc + 3) lo (.int r :: rest) w1) : G p l e R s m args below meth c D A nL Q wf kc ks pc lo st w := by
  intro H locs ls hl hP hD hS
  refine va_calli (va_runS (As := As) (rest := rest) ⟨X.1, X.2.1, X.2.2.1, X.2.2.2.1, X.2.2.2.2.1⟩ hM (va_cwS n X.2.2.2.2.1 (gd_S hy hw) rfl hrc.1 hrc.2 hy.2 hR) ⟨gMk_blind, fun U hU hW => ⟨rfl, ⟨by rw [hU]; exact hP, X.2.2.2.2.2.1.warm hW, hD⟩, fun q hq => hA q (Nat.le_trans hS.1 (by rw [hU] at hq; exact hq))⟩⟩ rfl hn hl.1 hst (lv_room hcat) d hkc) hS (fun _ _ h => h) (fun _ h => h)
    (fun r1 u t H1 locs1 ht hvm hpost hB hz hk hS1 => ?_)
  cases hpost
  exact k H1 locs1 ls hl (by rw [← ht]; exact hB.1) hB.2 hS1
/-- the row that isSo makes -/
theorem g_newJ {ad : Nat → Nat} {w : JT} {st : List Value} (X : gX p s m args meth c cc nL own D cI) (hA : ∀ q, s.heap.size ≤ q → A q) {n : Int32} (d : decode cc pc = .ok (.newarray .int, 2)) (hn : n = 7) (hkc : kc + 1 ≤ R.cells ∧ ks + 7 ≤ R.slots) (k : ∀ q : Nat, G p l e R s m args below meth c D A nL Q (wK q ad cI) (kc + 1) (ks + 7) (pc + 2) lo (.ref q :: st) (w.1, (w.2, fun _ => 0))) : G p l e R s m args below meth c D A nL Q (wJ [] ad cI) kc ks pc lo (.int n :: st) w := by
  subst hn
  intro H locs ls hl hP hD hS
  have e : ∀ q : Nat, wK q ad cI (w.1, (w.2, fun _ => 0)) = wJ [] ad cI w ++ [(q, .inl (cI.1, 7, .inl (fun _ => 0)))] := fun q => by
    unfold wK wJ
    simp only [List.append_assoc, List.append_nil, List.nil_append]
  refine g_newa (w := wJ [] ad cI w) X hA 7 d (by decide) (by decide) (Nat.le_of_ble_eq_true rfl) hkc (fun q => ?_) H locs ls hl hP hD hS
  have h1 := k q
  intro H1 locs1 ls1 hl1 hP1 hD1 hS1
  refine h1 H1 locs1 ls1 hl1 ?_ ?_ hS1
  · rw [e]; exact hP1
  · rw [e]; exact hD1
theorem g_zretK {q : Nat} {ad : Nat → Nat} {w : KT} (X : gX p s m args meth c cc nL own D cI) (hr : meth.sig.returnType = some .boolean) {x : Int32} {o : Int32 × JT} (d : decode cc pc = .ok (.ireturn, 1)) (hn : narrow .boolean (.int x) = .int x) (hf : some (x, (w.1, w.2.1)) = some o) : G p l e R s m args below meth c D A nL (MQ below (qcI D A o.1 (wJ [] ad cI o.2)) args s kc ks A) (wK q ad cI) kc ks pc lo [.int x] w := by
  cases hf
  intro H locs ls hl hP hD hS
  have hsub : ∀ z ∈ wJ [] ad cI (w.1, w.2.1), z ∈ wK q ad cI w := fun z hz => by
    unfold wK wJ at *
    rcases List.mem_append.mp hz with h | h
    · exact List.mem_append_left _ h
    · rcases List.mem_append.mp h with h | h
      · exact List.mem_append_right _ (List.mem_append_left _ h)
      · cases h
  have hP2 : va_P D vwCl (wJ [] ad cI (w.1, w.2.1)) H := va_P_iff.mpr (fun z hz => va_P_iff.mp hP z (hsub z hz))
  have hD2 : va_D A (wJ [] ad cI (w.1, w.2.1)) := by
    rw [va_D_iff] at hD ⊢
    refine ⟨?_, fun z hz => hD.2 z (hsub z hz)⟩
    have h1 := hD.1
    unfold wK wJ at h1
    rw [List.map_append, List.map_append, ← List.append_assoc, List.nodup_append] at h1
    unfold wJ
    rw [List.append_nil, List.map_append]
    exact h1.1
  exact W.zret X.1 X.2.1 hr hn (fun t ht hW => ⟨⟨x, (), rfl, rfl, by rw [ht]; exact hP2, hD2⟩, hS.F ht⟩) hS.2.2 d X.2.2.2.2.2.2
end JM
