/-! THE LAW'S WORLD: the class (cells 0 to 92) and the model (93 to 100) -/
abbrev LT : Type := TT × St
def adM (ad : Nat → Nat) : Nat → Nat := fun k => ad (93 + k)
def wL (ad : Nat → Nat) (cI : ClassId × ClassId) (t : LT) : va_W := wT ad cI t.1 ++ wM (adM ad) cI t.2
theorem wL_fst (ad : Nat → Nat) (cI : ClassId × ClassId) (t : LT) : (wL ad cI t).map Prod.fst = (List.range 101).map ad := rfl
theorem wM_fst (ad : Nat → Nat) (cI : ClassId × ClassId) (v : St) : (wM (adM ad) cI v).map Prod.fst = (List.range 8).map (fun k => ad (93 + k)) := rfl
theorem mem_wT_fst {ad : Nat → Nat} {cI : ClassId × ClassId} {t : TT} {q : Nat × va_E} (h : q ∈ wT ad cI t) : ∃ j, j < 93 ∧ q.1 = ad j := by
  have := List.mem_map_of_mem (f := Prod.fst) h
  rw [wT_fst] at this
  obtain ⟨j, hj, he⟩ := List.mem_map.mp this
  exact ⟨j, List.mem_range.mp hj, he.symm⟩
theorem mem_wM_fst {ad : Nat → Nat} {cI : ClassId × ClassId} {v : St} {q : Nat × va_E} (h : q ∈ wM (adM ad) cI v) : ∃ j, j < 8 ∧ q.1 = ad (93 + j) := by
  have := List.mem_map_of_mem (f := Prod.fst) h
  rw [wM_fst] at this
  obtain ⟨j, hj, he⟩ := List.mem_map.mp this
  exact ⟨j, List.mem_range.mp hj, he.symm⟩
theorem wL_nd {ad : Nat → Nat} {cI : ClassId × ClassId} {t : LT} (h : ((wL ad cI t).map Prod.fst).Nodup) : ((List.range 101).map ad).Nodup := h
theorem liftL_T {l : Launch} {D : va_G} {cI : ClassId × ClassId} {A : Nat → Prop} {ad : Nat → Nat} {t t' : TT} {m : St} {y : MethodName} {b : ByteArray} {nL : Nat} {ret : Option FieldType} {rm : Room} {As : List Value} {r : Int32} (hM : CTi l D cI (fun q => q ∈ (List.range 93).map ad) y b nL ret rm As (wT ad cI t) r (wT ad cI t')) : CTi l D cI A y b nL ret rm As (wL ad cI (t, m)) r (wL ad cI (t', m)) := by
  refine lift_i (A1 := fun q => q ∈ (List.range 93).map ad) (fun q => by rw [wT_fst]) (fun q hq => List.mem_append_left _ hq) (fun h => ?_) rfl (fun h q hq => ?_) hM
  · unfold wL at h
    rw [List.map_append, List.nodup_append] at h
    exact h.1
  · rcases List.mem_append.mp hq with h1 | h1
    · exact Or.inl h1
    · refine Or.inr ⟨List.mem_append_right _ h1, fun h2 => ?_⟩
      obtain ⟨j, hj, he⟩ := mem_wM_fst h1
      rw [wT_fst] at h2
      obtain ⟨k, hk, he2⟩ := List.mem_map.mp h2
      have := ad_inj (wL_nd h) (by have := List.mem_range.mp hk; omega) (by omega) (he2.trans he)
      have := List.mem_range.mp hk
      omega
theorem liftL_M {l : Launch} {D : va_G} {cI : ClassId × ClassId} {A : Nat → Prop} {ad : Nat → Nat} {t : TT} {m m' : St} {y : MethodName} {b : ByteArray} {nL : Nat} {ret : Option FieldType} {rm : Room} {As : List Value} {r : Int32} (hM : CTi l D cI (fun q => q ∈ (List.range 8).map (fun k => ad (93 + k))) y b nL ret rm As (wM (adM ad) cI m) r (wM (adM ad) cI m')) : CTi l D cI A y b nL ret rm As (wL ad cI (t, m)) r (wL ad cI (t, m')) := by
  refine lift_i (A1 := fun q => q ∈ (List.range 8).map (fun k => ad (93 + k))) (fun q => by rw [wM_fst]) (fun q hq => List.mem_append_right _ hq) (fun h => ?_) rfl (fun h q hq => ?_) hM
  · unfold wL at h
    rw [List.map_append, List.nodup_append] at h
    exact h.2.1
  · rcases List.mem_append.mp hq with h1 | h1
    · refine Or.inr ⟨List.mem_append_left _ h1, fun h2 => ?_⟩
      obtain ⟨j, hj, he⟩ := mem_wT_fst h1
      rw [wM_fst] at h2
      obtain ⟨k, hk, he2⟩ := List.mem_map.mp h2
      have := ad_inj (wL_nd h) (by have := List.mem_range.mp hk; omega) (by omega) (he2.trans he)
      omega
    · exact Or.inl h1
/-! THE CLAIM OUT OF ONE WALK OF THE LAW'S BODY. Your part is whole_start (and what it stands on); all else here is the same for every law, but numbers. -/
def R_law : String := "ReachedHeapLaw"
def lw_P (b : Addr) (xs : List Int32) (args : Array Value) (s : State) : Prop := args = #[.ref b] ∧ s.IntsAt b xs ∧ xs.length ≤ 2048 ∧ (Jvm.Cond.and given_1 narrow_1).before args s = true
def lw_Q (_ : Array Value) (s : State) (o : Outcome) (t : State) : Prop := o = .returned (some (.int 1)) ∧ Framed s o t [] 600000 7302250
def lw_Z (below : List Frame) (a : Array Value) (s : State) : State → Prop := fun t => ∃ o, t.status = .running ∧ Ended t below o ∧ lw_Q a s o t
/-- the law's own end, with 1 on the stack, nothing written that was there before, its room as the claim has it -/
theorem lw_ret {p : Program} {l : Launch} {e : Env} {s : State} {m : MethodId} {below : List Frame} {meth : Method} {c : Code} {b : Nat} (hx : p.tables.exec = Jvm.exec) (hb : c.code = code) (hr : meth.sig.returnType = ret) (hlocks : meth.locks = false) {pc : Nat} {H : Heap} {ls : Array Slot} (hdg : decode code pc = .ok (.ireturn, 1)) : W p l e room_1 s m #[Value.ref b] below meth c H [] 600000 7302250 (lw_Z below #[Value.ref b] s) (F0 m pc ls [.int 1]) := by
  intro T hT X
  obtain ⟨fs, hret, hrun, hended, hW, hframe⟩ := X.leave (v := some (.int 1)) (hlocks := hlocks) (fun h => by rw [hr] at h; cases h)
  have hmeth' : T.vm.method? m = some meth := X.method'
  refine ⟨T.setFrames fs, ?_, .returned (some (.int 1)), hrun, hended, rfl, ⟨_, rfl⟩, hW, hframe⟩
  jvm_step X.here [X.here.top, hx, hb, hdg, hmeth', hr, ret, narrow_b1]
  (try refine ⟨rfl, ?_⟩); (try refine ⟨rfl, ?_⟩)
  first | (intro acts; rw [hret _ acts rfl rfl rfl]) | rw [hret _ _ rfl rfl rfl]
  exact Steps.refl _
/-- what holds at the law's entry: the machine, the code, the tables' words (any of lw_tbl by 'hts w (by decide +kernel)'), the script of L ints xs at the cell b, what the Statement gives of the start (any of its parts by flat_of_before) -/
def lw_At (p : Program) (s : State) (m : MethodId) (meth : Method) (c : Code) (b L : Nat) (xs : Nat → Int32) : Prop :=
  p.tables.exec = Jvm.exec ∧ c.code = code ∧ meth.sig.returnType = ret ∧ c.maxLocals = 4 ∧ s.vm.findClass R_law = some m.cls ∧ (∀ w ∈ lw_tbl, w.before #[Value.ref b] s = true) ∧ va_X b L xs s s.heap ∧ b < s.heap.size ∧ meth.locks = false ∧ (Jvm.Cond.and given_1 narrow_1).before #[Value.ref b] s = true

section LG
variable {p : Program} {l : Launch} {e : Env} {R : Room} {s : State} {m : MethodId} {args : Array Value} {below : List Frame} {meth : Method} {c : Code} {D : va_G} {A : Nat → Prop} {nL : Nat} {Q : State → Prop} {Wt : Type} {kc ks : Nat} {wf : Wt → va_W} {cc : ByteArray} {own : String} {cI : ClassId × ClassId} {pc : Nat} {lo : List (Option Value)} {st : List Value} {w : Wt}
theorem g_sld (X : gX p s m args meth c cc nL own D cI) {b L : Nat} {xs : Nat → Int32} (hXs : va_X b L xs s s.heap) (hbl : b < s.heap.size) (hbA : ¬ A b) {i : Int32} (d : decode cc pc = .ok (.iaload, 1)) (hi : ib i L) (k : G p l e R s m args below meth c D A nL Q wf kc ks (pc + 1) lo (.int (xs i.toNatClampNeg) :: st) w) : G p l e R s m args below meth c D A nL Q wf kc ks pc lo (.int i :: .ref b :: st) w :=
  fun H locs ls hl hP hD hS => va_sld X.1 X.2.1 hXs hbl hbA hS (ib_in hi) d (k H locs ls hl hP hD hS)
theorem g_slen (X : gX p s m args meth c cc nL own D cI) {b L : Nat} {xs : Nat → Int32} (hXs : va_X b L xs s s.heap) (hbl : b < s.heap.size) (hbA : ¬ A b) (d : decode cc pc = .ok (.arraylength, 1)) (k : G p l e R s m args below meth c D A nL Q wf kc ks (pc + 1) lo (.int (Int32.ofNat L) :: st) w) : G p l e R s m args below meth c D A nL Q wf kc ks pc lo (.ref b :: st) w :=
  fun H locs ls hl hP hD hS => va_slen X.1 X.2.1 hXs hbl hbA hS d (k H locs ls hl hP hD hS)
theorem g_lret {b : Nat} (X : gX p s m #[.ref b] meth c cL_law 4 RL D cI) (hr : meth.sig.returnType = ret) {x : Int32} {o : Int32 × Wt} (d : decode cL_law pc = .ok (.ireturn, 1)) (hf : some (x, w) = some o) (ho : o.1 = 1) (hk : kc ≤ 600000 ∧ ks ≤ 7302250 := by exact ⟨Nat.le_of_ble_eq_true rfl, Nat.le_of_ble_eq_true rfl⟩) : G p l e room_1 s m #[.ref b] below meth c D (fun q => s.heap.size ≤ q) 4 (lw_Z below #[.ref b] s) wf kc ks pc lo [.int x] w := by
  cases hf
  have h1 : x = 1 := ho
  subst h1
  intro H locs ls hl hP hD hS
  refine W.widen hk.1 hk.2 ?_
  refine va_forget hS.2.2 ?_
  exact lw_ret X.1 X.2.1 hr X.2.2.2.2.2.2 d
end LG
