/-! THE CLAIM OUT OF ONE WALK OF THE LAW'S BODY. Your part is whole_start (and what it stands on); all else here is the same for every law, but numbers. -/
def R_law : String := "ReachedHeapLaw"
def lw_P (b : Addr) (xs : List Int32) (args : Array Value) (s : State) : Prop := args = #[.ref b] ∧ s.IntsAt b xs ∧ xs.length ≤ 260 ∧ (Jvm.Cond.and given_1 narrow_1).before args s = true
def lw_Q (_ : Array Value) (s : State) (o : Outcome) (t : State) : Prop := o = .returned (some (.int 1)) ∧ Framed s o t [] 600000 7302250
def lw_Z (below : List Frame) (a : Array Value) (s : State) : State → Prop := fun t => ∃ o, t.status = .running ∧ Ended t below o ∧ lw_Q a s o t
/-- the law's own end, with 1 on the stack, nothing written that was there before, its room as the claim has it -/
theorem lw_ret {p : Program} {l : Launch} {e : Env} {s : State} {m : MethodId} {below : List Frame} {meth : Method} {c : Code} {b : Nat} (hx : p.tables.exec = Jvm.exec) (hb : c.code = code) (hr : meth.sig.returnType = ret) (hlocks : meth.locks = false) {pc : Nat} {H : Heap} {ls : Array Slot} (hdg : decode code pc = .ok (.ireturn, 1)) : W p l e room_1 s m #[Value.ref b] below meth c H [] 600000 7302250 (lw_Z below #[Value.ref b] s) (F0 m pc ls [.int 1]) := by
  intro T hT X
  obtain ⟨fs, hret, hrun, hended, hW, hframe⟩ := X.leave (v := some (.int 1)) (hlocks := hlocks) (fun h => by rw [hr] at h; cases h)
  have hmeth' : T.vm.method? m = some meth := X.method'
  refine ⟨T.setFrames fs, ?_, .returned (some (.int 1)), hrun, hended, rfl, ⟨_, rfl⟩, hW, hframe⟩
  jvm_step X.here [X.here.top, hx, hb, hdg, hmeth', hr, ret, narrow_b1]
  (try refine ⟨rfl, ?_⟩); (try refine ⟨rfl, ?_⟩)
  first | (intro acts; rw [hret _ acts rfl rfl rfl]) | rw [hret _ _ rfl rfl rfl]
  exact Steps.refl _
/-- what holds at the law's entry: the machine, the code, the tables' words (any of lw_tbl by 'hts w (by decide +kernel)'), the script of L ints xs at the cell b, what the Statement gives of the start (any of its parts by flat_of_before) -/
def lw_At (p : Program) (s : State) (m : MethodId) (meth : Method) (c : Code) (b L : Nat) (xs : Nat → Int32) : Prop :=
  p.tables.exec = Jvm.exec ∧ c.code = code ∧ meth.sig.returnType = ret ∧ c.maxLocals = 13 ∧ s.vm.findClass R_law = some m.cls ∧ (∀ w ∈ lw_tbl, w.before #[Value.ref b] s = true) ∧ va_X b L xs s s.heap ∧ b < s.heap.size ∧ meth.locks = false ∧ (Jvm.Cond.and given_1 narrow_1).before #[Value.ref b] s = true

theorem dL_cell_0 : decode cL_cell 0 = .ok (.iload_n 1, 1) := by decide +kernel
theorem dL_cell_1 : decode cL_cell 1 = .ok (.aload_n 0, 1) := by decide +kernel
theorem dL_cell_2 : decode cL_cell 2 = .ok (.arraylength, 1) := by decide +kernel
theorem dL_cell_3 : decode cL_cell 3 = .ok (.if_icmp .ge 9, 3) := by decide +kernel
theorem dL_cell_6 : decode cL_cell 6 = .ok (.aload_n 0, 1) := by decide +kernel
theorem dL_cell_7 : decode cL_cell 7 = .ok (.iload_n 1, 1) := by decide +kernel
theorem dL_cell_8 : decode cL_cell 8 = .ok (.iaload, 1) := by decide +kernel
theorem dL_cell_9 : decode cL_cell 9 = .ok (.goto 9, 3) := by decide +kernel
theorem dL_cell_12 : decode cL_cell 12 = .ok (.ldc 7, 2) := by decide +kernel
theorem dL_cell_14 : decode cL_cell 14 = .ok (.iload_n 1, 1) := by decide +kernel
theorem dL_cell_15 : decode cL_cell 15 = .ok (.iconst 3, 1) := by decide +kernel
theorem dL_cell_16 : decode cL_cell 16 = .ok (.iadd, 1) := by decide +kernel
theorem dL_cell_17 : decode cL_cell 17 = .ok (.imul, 1) := by decide +kernel
theorem dL_cell_18 : decode cL_cell 18 = .ok (.ireturn, 1) := by decide +kernel
theorem yv_L_cell : yS yL_cell cL_cell 2 (some .int) 2 := ⟨⟨tb2 13 rfl, tb1 0 rfl, tb2 14 rfl⟩, by decide +kernel, by decide +kernel, by decide +kernel⟩
abbrev rm_L_cell : Room := { frames := 0, cells := 0, slots := 0, locals := 0 }
section LG
variable {p : Program} {l : Launch} {e : Env} {R : Room} {s : State} {m : MethodId} {args : Array Value} {below : List Frame} {meth : Method} {c : Code} {D : va_G} {A : Nat → Prop} {nL : Nat} {Q : State → Prop} {Wt : Type} {kc ks : Nat} {wf : Wt → va_W} {cc : ByteArray} {own : String} {cI : ClassId × ClassId} {pc : Nat} {lo : List (Option Value)} {st : List Value} {w : Wt}
theorem g_sld (X : gX p s m args meth c cc nL own D cI) {b L : Nat} {xs : Nat → Int32} (hXs : va_X b L xs s s.heap) (hbl : b < s.heap.size) (hbA : ¬ A b) {i : Int32} (d : decode cc pc = .ok (.iaload, 1)) (hi : ib i L) (k : G p l e R s m args below meth c D A nL Q wf kc ks (pc + 1) lo (.int (xs i.toNatClampNeg) :: st) w) : G p l e R s m args below meth c D A nL Q wf kc ks pc lo (.int i :: .ref b :: st) w :=
  fun H locs ls hl hP hD hS => va_sld X.1 X.2.1 hXs hbl hbA hS (ib_in hi) d (k H locs ls hl hP hD hS)
theorem g_slen (X : gX p s m args meth c cc nL own D cI) {b L : Nat} {xs : Nat → Int32} (hXs : va_X b L xs s s.heap) (hbl : b < s.heap.size) (hbA : ¬ A b) (d : decode cc pc = .ok (.arraylength, 1)) (k : G p l e R s m args below meth c D A nL Q wf kc ks (pc + 1) lo (.int (Int32.ofNat L) :: st) w) : G p l e R s m args below meth c D A nL Q wf kc ks pc lo (.ref b :: st) w :=
  fun H locs ls hl hP hD hS => va_slen X.1 X.2.1 hXs hbl hbA hS d (k H locs ls hl hP hD hS)
def f_cell (L : Nat) (xs : Nat → Int32) (k : Int32) : Option Int32 := if k < Int32.ofNat L then (if ib k L then some (xs k.toNatClampNeg) else none) else some (40503 * (k + 3))
def gS (D : va_G) (cI : ClassId × ClassId) (A : Nat → Prop) (ws : va_W) (b L : Nat) (xs : Nat → Int32) (U : State) : Prop := gB D cI A ws U ∧ va_X b L xs U U.heap ∧ b < U.heap.size ∧ ¬ A b
theorem gS_blind {As : List Value} {ws : va_W} {b L : Nat} {xs : Nat → Int32} : FrameBlind (va_Pc As (gS D cI A ws b L xs)) := fun a U g mk q => ⟨q.1, ⟨q.2.1.1, gK.blind q.2.1.2.1, q.2.1.2.2⟩, va_X.moved (u := U) (U := U.calling g mk a) (Vm.Alike.refl U.vm) q.2.2.1, q.2.2.2⟩
set_option maxRecDepth 100000 in
theorem c_cell {b L : Nat} {xs : Nat → Int32} {x1 r : Int32} {ws : va_W} (hf : f_cell L xs x1 = some r) : Met l yL_cell (.code yL_cell cL_cell 2 (some .int) :: lw_g) rm_L_cell (va_Pc [.ref b, .int x1] (gS D cI A ws b L xs)) (qcI D A r ws) 0 0 A := by
  refine Met.ofW (cc := cL_cell) (maxL := 2) (ret := some .int) (by decide +kernel) rfl ?_
  intro p e s m args below meth c s₁ B hml hv
  obtain ⟨rfl, ⟨hP, hK, hD⟩, hXs, hbl, hbA⟩ := hv
  have hts := atoms_spec (ws := .code yL_cell cL_cell 2 (some .int) :: lw_g) B.pre
  have X : gX p s m [Value.ref b, .int x1].toArray meth c cL_cell 2 RL D cI := ⟨B.exec, B.bytes, hml, findClass_of_methodNamed B.named, fun w hw => hts w (List.mem_cons_of_mem _ hw), hK, B.notSynchronized⟩
  have hr : meth.sig.returnType = some .int := B.returns
  rw [lg_entry_eq]
  have key : G p l e rm_L_cell s m [Value.ref b, .int x1].toArray below meth c D A 2 (MQ below (qcI D A r (wI ws)) [Value.ref b, .int x1].toArray s 0 0 A) wI 0 0 0 [some (.ref b), some (.int x1)] [] ws := by
    unfold f_cell at hf
    refine g_iload_n X (i := 1) dL_cell_0 rfl rfl ?_
    refine g_aload_n X (i := 0) dL_cell_1 rfl rfl ?_
    refine g_slen X hXs hbl hbA dL_cell_2 ?_
    refine g_icmp_ge X dL_cell_3 (tgt := 12) (by decide) hf (fun c1 hf => ?_) (fun c1 hf => ?_)
    · obtain ⟨hb, hf⟩ := hfg hf
      refine g_aload_n X (i := 0) dL_cell_6 rfl rfl ?_
      refine g_iload_n X (i := 1) dL_cell_7 rfl rfl ?_
      refine g_sld X hXs hbl hbA dL_cell_8 hb ?_
      refine g_goto X dL_cell_9 (tgt := 18) (by decide) ?_
      exact g_iret (wf := wI) (o := (r, ws)) X hr dL_cell_18 (by rw [Option.some.inj hf])
    · refine g_ldc X (v := 40503) dL_cell_12 (tb2 15 rfl) ?_
      refine g_iload_n X (i := 1) dL_cell_14 rfl rfl ?_
      refine g_iconst X dL_cell_15 (v := 3) (by decide) ?_
      refine g_iadd X dL_cell_16 ?_
      refine g_imul X dL_cell_17 ?_
      exact g_iret (wf := wI) (o := (r, ws)) X hr dL_cell_18 (by rw [Option.some.inj hf])
  exact key _ _ _ (lo_entry rfl (Nat.le_of_ble_eq_true rfl)) hP hD va_S.rf
theorem g_up {kc' ks' : Nat} (h1 : kc ≤ kc') (h2 : ks ≤ ks') (k : G p l e R s m args below meth c D A nL Q wf kc' ks' pc lo st w) : G p l e R s m args below meth c D A nL Q wf kc ks pc lo st w :=
  fun H locs ls hl hP hD hS => W.widen h1 h2 (k H locs ls hl hP hD hS)
theorem g_jnw {M : Nat} {lo2 : List (Option Value)} {st2 : List Value} {w2 : Wt} (k2 : G p l e R s m args below meth c D A nL Q wf (kc + 1) (ks + 7) M lo2 st2 w2) (k1 : G p l e R s m args below meth c D A nL Q wf (kc + 1) (ks + 7) M lo2 st2 w2 → G p l e R s m args below meth c D A nL Q wf kc ks pc lo st w) : G p l e R s m args below meth c D A nL Q wf kc ks pc lo st w := k1 k2
theorem va_runS16 {y : MethodName} {bytes cc : ByteArray} {maxL nL mc ms n index : Nat} {ret : Option FieldType} {ws : List Cond} {rm : Room} {Pc : Array Value → State → Prop} {Qc : Array Value → State → Outcome → State → Prop} {free : Addr → Prop} {Ts : List Cond} {own : String} {As rest : List Value} {g : JFrame} {H : Heap} {locs : List Loc} {cells slots : Nat} (S : CallFix p m c cc nL s args Ts own) (hM : Met l y ws rm Pc Qc mc ms free) (cw : CallB R s args own index y bytes maxL ret ws rm mc ms n ∧ (Cond.static y).before args s = true) (hl16 : 16 + (maxL + 11) + rm.locals ≤ R.locals) (hp : PreS s H Pc As)
    (hg : g.method = m) (hn : As.length = n) (hsize : g.locals.size = nL) (hstack : g.stack = As.reverse ++ rest) (hW : 2 * g.monitorRoom + (rest.map fun v => v.category).sum ≤ 16) (hdg : decode cc g.pc = .ok (.invokestatic index, 3)) (hf : cells + mc ≤ R.cells ∧ slots + ms ≤ R.slots) :
    va_Run p l e R s m args below meth c H locs cells slots mc ms g rest (Qc As.toArray) (free) := by
  have hK : Back l R p e below s args y 3 16 (PreOf R mc ms Pc) (PostOf Qc mc ms free) := by
    obtain ⟨hrc, hrs, hfr, hlo, hws, hcw, -, hini, -⟩ := cw.1
    exact back_of (bytes := bytes) (maxL := maxL) (ret := ret) hM hp.1 hrc hrs hfr hl16 hws hcw (fun a' U hW => word_at hW (Or.inl (by first | rfl | simp [Cond.onTables, Cond.keeps, Cond.steady])) hini)
  obtain ⟨⟨-, -, -, -, -, -, hcode, hini, hy, hlen, hl⟩, hstt⟩ := cw
  obtain ⟨hx, hb, hml, ho, -⟩ := S
  intro T hT X
  obtain ⟨v, vm₁, ⟨U', l2, c2, s2⟩, hW₁, X', ⟨g', mk, t, L, e1, e2, hq, h1, hL, h2, h3⟩, st⟩ := callS X hx (bytes := bytes) (maxL := maxL) (ret := ret) ho hl hstt hini hcode hy hK hg (hsize.trans hml.symm) (argsL := As) (rest := rest) (fun sig h => hn.trans (hlen sig h)) hstack hW (by rw [hb]; exact hdg)
    (fun vm₁ hW₁ => ⟨hf.1, hf.2, hp.2 (T.setVm vm₁) hT hW₁⟩)
  dsimp only [Pt.U, Pt.locs, Pt.cells, Pt.slots] at X' e1 e2 h1 h2 h3 st
  subst h1; subst h2; subst h3
  exact ⟨v, (T.setVm vm₁).calling g' mk As.toArray, t, U', L, hT, X', hL, e1, e2, hq, st⟩
theorem lv_room16 {m : MethodId} {pc : Nat} {ls : Array Slot} {rest st : List Value} (h : (st.map fun v => v.category).sum ≤ 16) : 2 * (F0 m pc ls rest).monitorRoom + (st.map fun v => v.category).sum ≤ 16 := by
  show 2 * 0 + _ ≤ 16
  omega
theorem g_cell (X : gX p s m args meth c cc nL own D cI) {b L : Nat} {xs : Nat → Int32} (hXs : va_X b L xs s s.heap) (hbl : b < s.heap.size) (hbA : ¬ A b) {x1 r : Int32} {idx : Nat} {rest : List Value} (hf : f_cell L xs x1 = some r) (d : decode cc pc = .ok (.invokestatic idx, 3)) (hw : Cond.methodLink own idx yL_cell ∈ lw_g) (hR : rm_L_cell.frames + 1 ≤ R.frames ∧ 8 + (2 + 11) + rm_L_cell.locals ≤ R.locals) (hcat : (rest.map fun v => v.category).sum ≤ 16) (hR2 : 16 + (2 + 11) + rm_L_cell.locals ≤ R.locals) (hkc : kc + 0 ≤ R.cells ∧ ks + 0 ≤ R.slots) (k : G p l e R s m args below meth c D A nL Q wf kc ks (pc + 3) lo (.int r :: rest) w) : G p l e R s m args below meth c D A nL Q wf kc ks pc lo (.int x1 :: .ref b :: rest) w := by
  intro H locs ls hl hP hD hS
  refine va_calli (va_runS16 (As := [.ref b, .int x1]) (rest := rest) ⟨X.1, X.2.1, X.2.2.1, X.2.2.2.1, X.2.2.2.2.1⟩ (c_cell (A := A) (D := D) (cI := cI) (ws := wf w) hf) (va_cwS 2 X.2.2.2.2.1 (gd_S yv_L_cell hw) rfl rfl rfl yv_L_cell.2 hR) hR2 ⟨gS_blind, fun U hU hW => ⟨rfl, ⟨by rw [hU]; exact hP, X.2.2.2.2.2.1.warm hW, hD⟩, by rw [hU]; exact (va_X.moved hW.alike hXs).kept (hS.2.1 b hbl hbA), by rw [hU]; exact Nat.lt_of_lt_of_le hbl hS.1, hbA⟩⟩ rfl rfl hl.1 rfl (lv_room16 hcat) d hkc) hS (fun _ _ h => h) (fun _ h => h)
    (fun r1 u t H1 locs1 ht hvm hpost hB hz hk hS1 => ?_)
  · cases hpost
    exact k H1 locs1 ls hl (by rw [← ht]; exact hB.1) hB.2 hS1
theorem g_lret {b : Nat} (X : gX p s m #[.ref b] meth c cL_law 13 RL D cI) (hr : meth.sig.returnType = ret) {x : Int32} {o : Int32 × Wt} (d : decode cL_law pc = .ok (.ireturn, 1)) (hf : some (x, w) = some o) (ho : o.1 = 1) (hk : kc ≤ 600000 ∧ ks ≤ 7302250) : G p l e room_1 s m #[.ref b] below meth c D (fun q => s.heap.size ≤ q) 13 (lw_Z below #[.ref b] s) wf kc ks pc lo [.int x] w := by
  cases hf
  have h1 : x = 1 := ho
  subst h1
  intro H locs ls hl hP hD hS
  refine W.widen hk.1 hk.2 ?_
  refine va_forget hS.2.2 ?_
  exact lw_ret X.1 X.2.1 hr X.2.2.2.2.2.2 d
end LG
